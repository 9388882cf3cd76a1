-- ===== 10b: the reference's small methods =====
theorem sp_bits (σ : Sg) (x : Int32) : Sp yX3_bits cX3_bits 3 (some .int) 0 [.inl x] σ (rt σ (.inl (nI (cnt (bt x) 16)))) := by
  refine Sp.intro rfl (Nat.le_of_ble_eq_true rfl) (fun Γ c r => ?_)
  show J Γ 0 [some (.inl x), none, none] [] σ
  refine j_iconst c (nI 0) dX3_bits_0 (by decide) ?_
  refine j_istore_n c dX3_bits_1 (Nat.le_of_ble_eq_true rfl) rfl ?_
  refine j_iconst c (nI 0) dX3_bits_2 (by decide) ?_
  refine j_istore_n c dX3_bits_3 (Nat.le_of_ble_eq_true rfl) rfl ?_
  have key : ∀ k, k ≤ 16 → J Γ 4 [some (.inl x), some (.inl (nI (cnt (bt x) k))), some (.inl (nI k))] [] σ := by
    refine loopN 16 ?_ ?_
    · refine j_iload_n c dX3_bits_4 rfl ?_
      refine j_bipush c (nI 16) dX3_bits_5 (by decide) ?_
      refine j_icmp_ge c 24 dX3_bits_7 (by decide) (fun _ => ?_) (fun h => absurd (nI_le (Nat.le_refl _) (by decide)) h)
      refine j_iload_n c dX3_bits_24 rfl ?_
      exact j_iret c r dX3_bits_25 rfl ⟨rfl, rfl⟩
    · intro k hk ih
      refine j_iload_n c dX3_bits_4 rfl ?_
      refine j_bipush c (nI 16) dX3_bits_5 (by decide) ?_
      refine j_icmp_ge c 24 dX3_bits_7 (by decide) (fun h => absurd h (nI_ge hk (by decide))) (fun _ => ?_)
      refine j_iload_n c dX3_bits_10 rfl ?_
      refine j_iload_n c dX3_bits_11 rfl ?_
      refine j_iload_n c dX3_bits_12 rfl ?_
      refine j_ishr c _ dX3_bits_13 rfl ?_
      refine j_iconst c (nI 1) dX3_bits_14 (by decide) ?_
      refine j_iand c _ dX3_bits_15 (bt_shr x (by omega)) ?_
      refine j_iadd c _ dX3_bits_16 (cnt_step _ rfl) ?_
      refine j_istore_n c dX3_bits_17 (Nat.le_of_ble_eq_true rfl) rfl ?_
      refine j_iinc c _ dX3_bits_18 rfl (by first | exact nI_1 _ | exact pk_m1 _ | rfl) rfl ?_
      refine j_goto c 4 dX3_bits_21 (by decide) ?_
      exact ih
  exact key 0 (by omega)
theorem sp_areOf0 {T : TS} {σ : Sg} (hW : WF T) {f a b : Nat} (hf : f < tnf T) (ha : vcall (tn T) (tpl T f) a = true) (hb : b < 16 ^ tpl T f) (hp55 : σ 55 f = nI (tpl T f)) (h51 : ∀ c, c < tn T → ∀ d, d < 32 → bt (σ 51 c) d = up (tls T) c d) : Sp yX3_areOf cX3_areOf 5 (some .boolean) 1 [.inr 50, .inl (nI f), .inl (nI a), .inl (nI b)] σ (rt σ (.inl (bI (le3 (tls T) a b)))) := by
  have hpl := hW.2.2.2.2.1 f hf
  have h4 := hW.2.2.2.1
  have ha1 := vcall_lt ha hpl.2
  have hb1 : b < 4096 := Nat.lt_of_lt_of_le hb (p16 hpl.2)
  have hdg : ∀ p, dg a p < tn T := fun p => vcall_dg ha hpl.2 hW.1.1
  have e3 := leN_le3 (ls := tls T) (a := a) (b := b) hW.2.2.1 hpl.2 (vcall_spec ha).1 hb
  have hn := hW.1.2
  refine Sp.intro rfl (Nat.le_of_ble_eq_true rfl) (fun Γ c r => ?_)
  show J Γ 0 [some (.inr 50), some (.inl (nI f)), some (.inl (nI a)), some (.inl (nI b)), none] [] σ
  refine j_iconst c (nI 0) dX3_areOf_0 (by decide) ?_
  refine j_istore c dX3_areOf_1 (Nat.le_of_ble_eq_true rfl) rfl ?_
  have key : ∀ k, k ≤ tpl T f → leN (tls T) a b k = true → J Γ 3 [some (.inr 50), some (.inl (nI f)), some (.inl (nI a)), some (.inl (nI b)), some (.inl (nI k))] [] σ := by
    refine loopN (tpl T f) ?_ ?_
    · intro hk
      refine j_iload c dX3_areOf_3 rfl ?_
      refine j_aload_n c dX3_areOf_5 rfl ?_
      refine j_getR c fl_X3_22 dX3_areOf_6 (Nat.le_of_ble_eq_true rfl) rfl rfl ?_
      refine j_iload_n c dX3_areOf_9 rfl ?_
      refine j_iald c dX3_areOf_10 (Nat.le_of_ble_eq_true rfl) rfl rfl (by omega) (by decide) ?_
      rw [hp55]
      refine j_icmp_ge c 45 dX3_areOf_11 (by decide) (fun _ => ?_) (fun h => absurd (nI_le (Nat.le_refl _) (by omega)) h)
      refine j_iconst c (nI 1) dX3_areOf_45 (by decide) ?_
      exact j_iret c r dX3_areOf_46 rfl (rtT (by rw [← e3]; exact hk))
    · intro k hk ih hle
      have h1 := hdg k
      have h2 := dg_lt b k
      refine j_iload c dX3_areOf_3 rfl ?_
      refine j_aload_n c dX3_areOf_5 rfl ?_
      refine j_getR c fl_X3_22 dX3_areOf_6 (Nat.le_of_ble_eq_true rfl) rfl rfl ?_
      refine j_iload_n c dX3_areOf_9 rfl ?_
      refine j_iald c dX3_areOf_10 (Nat.le_of_ble_eq_true rfl) rfl rfl (by omega) (by decide) ?_
      rw [hp55]
      refine j_icmp_ge c 45 dX3_areOf_11 (by decide) (fun h => absurd h (nI_ge hk (by omega))) (fun _ => ?_)
      refine j_aload_n c dX3_areOf_14 rfl ?_
      refine j_getR c fl_X3_7 dX3_areOf_15 (Nat.le_of_ble_eq_true rfl) rfl rfl ?_
      refine j_iload_n c dX3_areOf_18 rfl ?_
      refine j_iload c dX3_areOf_19 rfl ?_
      refine j_callS1 c kw_X3_107 (sp_digit σ a k (by omega) (by omega)) dX3_areOf_21 rfl rfl (by decide) (Nat.le_of_ble_eq_true rfl) ?_
      refine j_iald c dX3_areOf_24 (by first | exact (Nat.le_of_ble_eq_true rfl) | exact hp.lt (by decide)) (by first | exact lf1 hp | exact lf2 hp | exact lf3 hp | exact lf4 hp | exact lf5 hp | exact lf6 hp | rfl) rfl (by omega) (by decide) ?_
      refine j_iload_n c dX3_areOf_25 rfl ?_
      refine j_iload c dX3_areOf_26 rfl ?_
      refine j_callS1 c kw_X3_107 (sp_digit σ b k (by omega) (by omega)) dX3_areOf_28 rfl rfl (by decide) (Nat.le_of_ble_eq_true rfl) ?_
      refine j_callS1 c kw_X3_97 (sp_isOn σ _ (dg b k) (by omega)) dX3_areOf_31 rfl rfl (by decide) (Nat.le_of_ble_eq_true rfl) ?_
      rw [h51 (dg a k) h1 (dg b k) (by omega)]
      refine j_if_ne c 39 dX3_areOf_34 (by decide) (fun h => ?_) (fun h => ?_)
      · refine j_iinc c _ dX3_areOf_39 rfl (by first | exact nI_1 _ | exact pk_m1 _ | rfl) rfl ?_
        refine j_goto c 3 dX3_areOf_42 (by decide) ?_
        exact ih (by rw [leN, hle]; simpa [bI_ne0] using h)
      · refine j_iconst c (nI 0) dX3_areOf_37 (by decide) ?_
        exact j_iret c r dX3_areOf_38 rfl (rtF (by rw [← e3]; exact leN_no (by simpa [bI_ne0] using h) _ hk))
  exact key 0 (by omega) rfl
theorem sp_areOf {T : TS} {mo : Option (Nat × Nat)} {σ : Sg} (hM : InvM T mo σ) (hW : WF T) {f a b : Nat} (hf : f < tnf T) (ha : vcall (tn T) (tpl T f) a = true) (hb : b < 16 ^ tpl T f) : Sp yX3_areOf cX3_areOf 5 (some .boolean) 1 [.inr 50, .inl (nI f), .inl (nI a), .inl (nI b)] σ (rt σ (.inl (bI (le3 (tls T) a b)))) := sp_areOf0 hW hf ha hb (hM.2.2.2.2.2.2.1 f hf) hM.2.1
theorem sp_methodFor {σ : Sg} {f : Nat} (hf : f < 4) (w : Int32) : Sp yX3_methodFor cX3_methodFor 4 (some .int) 0 [.inr 50, .inl (nI f), .inl w] σ (rt σ (.inl (oI (fnd (fun m => decide (σ 56 (12 * f + m) = w)) 12)))) := by
  refine Sp.intro rfl (Nat.le_of_ble_eq_true rfl) (fun Γ c r => ?_)
  show J Γ 0 [some (.inr 50), some (.inl (nI f)), some (.inl w), none] [] σ
  refine j_iconst c (nI 0) dX3_methodFor_0 (by decide) ?_
  refine j_istore_n c dX3_methodFor_1 (Nat.le_of_ble_eq_true rfl) rfl ?_
  have key : ∀ k, k ≤ 12 → (∀ j, j < k → decide (σ 56 (12 * f + j) = w) = false) → J Γ 2 [some (.inr 50), some (.inl (nI f)), some (.inl w), some (.inl (nI k))] [] σ := by
    refine loopN 12 ?_ ?_
    · intro h0
      refine j_iload_n c dX3_methodFor_2 rfl ?_
      refine j_bipush c (nI 12) dX3_methodFor_3 (by decide) ?_
      refine j_icmp_ge c 31 dX3_methodFor_5 (by decide) (fun _ => ?_) (fun h => absurd (nI_le (Nat.le_refl _) (by decide)) h)
      refine j_iconst c (-1) dX3_methodFor_31 (by decide) ?_
      exact j_iret c r dX3_methodFor_32 rfl ⟨by rw [fnd_no h0]; rfl, rfl⟩
    · intro k hk ih h0
      refine j_iload_n c dX3_methodFor_2 rfl ?_
      refine j_bipush c (nI 12) dX3_methodFor_3 (by decide) ?_
      refine j_icmp_ge c 31 dX3_methodFor_5 (by decide) (fun h => absurd h (nI_ge hk (by decide))) (fun _ => ?_)
      refine j_aload_n c dX3_methodFor_8 rfl ?_
      refine j_getR c fl_X3_25 dX3_methodFor_9 (Nat.le_of_ble_eq_true rfl) rfl rfl ?_
      refine j_bipush c (nI 12) dX3_methodFor_12 (by decide) ?_
      refine j_iload_n c dX3_methodFor_14 rfl ?_
      refine j_imul c _ dX3_methodFor_15 (by first | exact pk_mul _ _ | rfl) ?_
      refine j_iload_n c dX3_methodFor_16 rfl ?_
      refine j_iadd c _ dX3_methodFor_17 (by first | exact nI_add _ _ | rfl) ?_
      refine j_iald c dX3_methodFor_18 (Nat.le_of_ble_eq_true rfl) rfl rfl (by omega) (by decide) ?_
      refine j_iload_n c dX3_methodFor_19 rfl ?_
      refine j_icmp_ne c 25 dX3_methodFor_20 (by decide) (fun h => ?_) (fun h => ?_)
      · refine j_iinc c _ dX3_methodFor_25 rfl (by first | exact nI_1 _ | exact pk_m1 _ | rfl) rfl ?_
        refine j_goto c 2 dX3_methodFor_28 (by decide) ?_
        refine ih (fun j hj => ?_)
        by_cases e : j = k
        · subst e; simpa using h
        · exact h0 j (by omega)
      · refine j_iload_n c dX3_methodFor_23 rfl ?_
        exact j_iret c r dX3_methodFor_24 rfl ⟨by rw [fnd_hit hk (by simpa using h) h0]; rfl, rfl⟩
  exact key 0 (by omega) (fun j hj => by omega)
theorem sp_methodsOf {σ : Sg} {f : Nat} (hf : f < 4) : Sp yX3_methodsOf cX3_methodsOf 4 (some .int) 0 [.inr 50, .inl (nI f)] σ (rt σ (.inl (mkS (fun m => !decide (σ 56 (12 * f + m) = -1)) 12))) := by
  refine Sp.intro rfl (Nat.le_of_ble_eq_true rfl) (fun Γ c r => ?_)
  show J Γ 0 [some (.inr 50), some (.inl (nI f)), none, none] [] σ
  refine j_iconst c (nI 0) dX3_methodsOf_0 (by decide) ?_
  refine j_istore_n c dX3_methodsOf_1 (Nat.le_of_ble_eq_true rfl) rfl ?_
  refine j_iconst c (nI 0) dX3_methodsOf_2 (by decide) ?_
  refine j_istore_n c dX3_methodsOf_3 (Nat.le_of_ble_eq_true rfl) rfl ?_
  have key : ∀ k, k ≤ 12 → J Γ 4 [some (.inr 50), some (.inl (nI f)), some (.inl (mkS (fun m => !decide (σ 56 (12 * f + m) = -1)) k)), some (.inl (nI k))] [] σ := by
    refine loopN 12 ?_ ?_
    · refine j_iload_n c dX3_methodsOf_4 rfl ?_
      refine j_bipush c (nI 12) dX3_methodsOf_5 (by decide) ?_
      refine j_icmp_ge c 41 dX3_methodsOf_7 (by decide) (fun _ => ?_) (fun h => absurd (nI_le (Nat.le_refl _) (by decide)) h)
      refine j_iload_n c dX3_methodsOf_41 rfl ?_
      exact j_iret c r dX3_methodsOf_42 rfl ⟨rfl, rfl⟩
    · intro k hk ih
      refine j_iload_n c dX3_methodsOf_4 rfl ?_
      refine j_bipush c (nI 12) dX3_methodsOf_5 (by decide) ?_
      refine j_icmp_ge c 41 dX3_methodsOf_7 (by decide) (fun h => absurd h (nI_ge hk (by decide))) (fun _ => ?_)
      refine j_iload_n c dX3_methodsOf_10 rfl ?_
      refine j_aload_n c dX3_methodsOf_11 rfl ?_
      refine j_getR c fl_X3_25 dX3_methodsOf_12 (Nat.le_of_ble_eq_true rfl) rfl rfl ?_
      refine j_bipush c (nI 12) dX3_methodsOf_15 (by decide) ?_
      refine j_iload_n c dX3_methodsOf_17 rfl ?_
      refine j_imul c _ dX3_methodsOf_18 (by first | exact pk_mul _ _ | rfl) ?_
      refine j_iload_n c dX3_methodsOf_19 rfl ?_
      refine j_iadd c _ dX3_methodsOf_20 (by first | exact nI_add _ _ | rfl) ?_
      refine j_iald c dX3_methodsOf_21 (Nat.le_of_ble_eq_true rfl) rfl rfl (by omega) (by decide) ?_
      refine j_iconst c (-1) dX3_methodsOf_22 (by decide) ?_
      refine j_icmp_eq c 32 dX3_methodsOf_23 (by decide) (fun h => ?_) (fun h => ?_)
      · refine j_iconst c (nI 0) dX3_methodsOf_32 (by decide) ?_
        refine j_ior c _ dX3_methodsOf_33 (show _ = mkS (fun m => !decide (σ 56 (12 * f + m) = -1)) (k + 1) by simp [mkS, h]) ?_
        refine j_istore_n c dX3_methodsOf_34 (Nat.le_of_ble_eq_true rfl) rfl ?_
        refine j_iinc c _ dX3_methodsOf_35 rfl (by first | exact nI_1 _ | exact pk_m1 _ | rfl) rfl ?_
        refine j_goto c 4 dX3_methodsOf_38 (by decide) ?_
        exact ih
      · refine j_iconst c (nI 1) dX3_methodsOf_26 (by decide) ?_
        refine j_iload_n c dX3_methodsOf_27 rfl ?_
        refine j_ishl c _ dX3_methodsOf_28 rfl ?_
        refine j_goto c 33 dX3_methodsOf_29 (by decide) ?_
        refine j_ior c _ dX3_methodsOf_33 (show _ = mkS (fun m => !decide (σ 56 (12 * f + m) = -1)) (k + 1) by simp [mkS, h]) ?_
        refine j_istore_n c dX3_methodsOf_34 (Nat.le_of_ble_eq_true rfl) rfl ?_
        refine j_iinc c _ dX3_methodsOf_35 rfl (by first | exact nI_1 _ | exact pk_m1 _ | rfl) rfl ?_
        refine j_goto c 4 dX3_methodsOf_38 (by decide) ?_
        exact ih
  exact key 0 (by omega)
theorem sp_isMethod {T : TS} {mo : Option (Nat × Nat)} {σ : Sg} (hM : InvM T mo σ) (hW : WF T) (x y : Int32) : Sp yX3_isMethod cX3_isMethod 3 (some .boolean) 2 [.inr 50, .inl x, .inl y] σ (rt σ (.inl (bI (isN x (tnf T) && (isN y 12 && (ttg T x.toNatClampNeg y.toNatClampNeg).isSome))))) := by
  have h4 := hW.2.2.2.1
  refine Sp.intro rfl (Nat.le_of_ble_eq_true rfl) (fun Γ c r => ?_)
  show J Γ 0 [some (.inr 50), some (.inl x), some (.inl y)] [] σ
  refine j_aload_n c dX3_isMethod_0 rfl ?_
  refine j_iload_n c dX3_isMethod_1 rfl ?_
  refine j_callV1 c kw_X3_104 (sp_isFunction σ x (tnf T) hM.2.2.2.2.2.1 h4) dX3_isMethod_2 rfl rfl (by decide) (Nat.le_of_ble_eq_true rfl) (Nat.le_of_ble_eq_true rfl) rfl rfl ?_
  refine j_if_eq c 37 dX3_isMethod_5 (by decide) (fun h => ?_) (fun h => ?_)
  · refine j_iconst c (nI 0) dX3_isMethod_37 (by decide) ?_
    exact j_iret c r dX3_isMethod_38 rfl (rtF (by rw [bI_ne0] at h; rw [h]; rfl))
  · have hx : isN x (tnf T) = true := by simpa [bI_ne0] using h
    refine j_iload_n c dX3_isMethod_8 rfl ?_
    refine j_iconst c (nI 0) dX3_isMethod_9 (by decide) ?_
    refine j_bipush c (nI 11) dX3_isMethod_10 (by decide) ?_
    refine j_callS1 c kw_X3_68 (sp_inN σ y 12 (by decide) (by decide)) dX3_isMethod_12 rfl rfl (by decide) (Nat.le_of_ble_eq_true rfl) ?_
    refine j_if_eq c 37 dX3_isMethod_15 (by decide) (fun g => ?_) (fun g => ?_)
    · refine j_iconst c (nI 0) dX3_isMethod_37 (by decide) ?_
      exact j_iret c r dX3_isMethod_38 rfl (rtF (by rw [bI_ne0] at g; rw [g]; simp))
    · have hy : isN y 12 = true := by simpa [bI_ne0] using g
      obtain ⟨i, hi, hi2, rfl⟩ := isN_of hx
      obtain ⟨k, hk, hk2, rfl⟩ := isN_of hy
      refine j_aload_n c dX3_isMethod_18 rfl ?_
      refine j_getR c fl_X3_25 dX3_isMethod_19 (Nat.le_of_ble_eq_true rfl) rfl rfl ?_
      refine j_bipush c (nI 12) dX3_isMethod_22 (by decide) ?_
      refine j_iload_n c dX3_isMethod_24 rfl ?_
      refine j_imul c _ dX3_isMethod_25 (by first | exact pk_mul _ _ | rfl) ?_
      refine j_iload_n c dX3_isMethod_26 rfl ?_
      refine j_iadd c _ dX3_isMethod_27 (by first | exact nI_add _ _ | rfl) ?_
      refine j_iald c dX3_isMethod_28 (Nat.le_of_ble_eq_true rfl) rfl rfl (by omega) (by decide) ?_
      refine j_iconst c (-1) dX3_isMethod_29 (by decide) ?_
      rw [hM.2.2.2.2.2.2.2.1 i k hi hk]
      rw [nI_clamp hi2, nI_clamp hk2, hx, hy] at r
      have ho : ∀ t, ttg T i k = some t → t < 2 ^ 31 := fun t ht => by
        have h5 := vcall_lt (hW.2.2.2.2.2.1 i k t hi ht).2.1 (hW.2.2.2.2.1 i hi).2
        omega
      refine j_icmp_eq c 37 dX3_isMethod_30 (by decide) (fun e => ?_) (fun e => ?_)
      · refine j_iconst c (nI 0) dX3_isMethod_37 (by decide) ?_
        rw [oI_none ho] at e
        exact j_iret c r dX3_isMethod_38 rfl (rtF (by rw [e]; rfl))
      · refine j_iconst c (nI 1) dX3_isMethod_33 (by decide) ?_
        refine j_goto c 38 dX3_isMethod_34 (by decide) ?_
        rw [oI_none ho] at e
        exact j_iret c r dX3_isMethod_38 rfl (rtT (by simpa [Option.isSome_iff_ne_none] using e))
theorem sp_isCall {T : TS} {mo : Option (Nat × Nat)} {σ : Sg} (hM : InvM T mo σ) (hW : WF T) (x y : Int32) : Sp yX3_isCall cX3_isCall 4 (some .boolean) 2 [.inr 50, .inl x, .inl y] σ (rt σ (.inl (bI (isC T x y)))) := by
  have h4 := hW.2.2.2.1
  have hn := hW.1
  refine Sp.intro rfl (Nat.le_of_ble_eq_true rfl) (fun Γ c r => ?_)
  show J Γ 0 [some (.inr 50), some (.inl x), some (.inl y), none] [] σ
  refine j_aload_n c dX3_isCall_0 rfl ?_
  refine j_iload_n c dX3_isCall_1 rfl ?_
  refine j_callV1 c kw_X3_104 (sp_isFunction σ x (tnf T) hM.2.2.2.2.2.1 h4) dX3_isCall_2 rfl rfl (by decide) (Nat.le_of_ble_eq_true rfl) (Nat.le_of_ble_eq_true rfl) rfl rfl ?_
  refine j_if_eq c 26 dX3_isCall_5 (by decide) (fun h => ?_) (fun h => ?_)
  · refine j_iconst c (nI 0) dX3_isCall_26 (by decide) ?_
    exact j_iret c r dX3_isCall_27 rfl (rtF (by rw [bI_ne0] at h; simp [isC, h]))
  · have hx : isN x (tnf T) = true := by simpa [bI_ne0] using h
    obtain ⟨i, hi, hi2, rfl⟩ := isN_of hx
    have hpl := hW.2.2.2.2.1 i hi
    have hp55 := hM.2.2.2.2.2.2.1 i hi
    have h16 := p16 hpl.2
    refine j_iload_n c dX3_isCall_8 rfl ?_
    refine j_if_lt c 26 dX3_isCall_9 (by decide) (fun g => ?_) (fun g => ?_)
    · refine j_iconst c (nI 0) dX3_isCall_26 (by decide) ?_
      exact j_iret c r dX3_isCall_27 rfl (rtF (by simp [isC, isN_neg g]))
    · obtain ⟨k, hk, rfl⟩ := nI_of g
      rw [isC_nI hi h4 hk] at r
      refine j_iload_n c dX3_isCall_12 rfl ?_
      refine j_iconst c (nI 1) dX3_isCall_13 (by decide) ?_
      refine j_iconst c (nI 4) dX3_isCall_14 (by decide) ?_
      refine j_aload_n c dX3_isCall_15 rfl ?_
      refine j_getR c fl_X3_22 dX3_isCall_16 (Nat.le_of_ble_eq_true rfl) rfl rfl ?_
      refine j_iload_n c dX3_isCall_19 rfl ?_
      refine j_iald c dX3_isCall_20 (Nat.le_of_ble_eq_true rfl) rfl rfl (by omega) (by decide) ?_
      rw [hp55]
      refine j_imul c _ dX3_isCall_21 (by first | exact pk_mul _ _ | rfl) ?_
      refine j_ishl c _ dX3_isCall_22 (shl16 hpl.2) ?_
      refine j_icmp_lt c 28 dX3_isCall_23 (by decide) (fun e => ?_) (fun e => ?_)
      · rw [nI_ltI hk (by omega)] at e
        refine j_iconst c (nI 0) dX3_isCall_28 (by decide) ?_
        refine j_istore_n c dX3_isCall_29 (Nat.le_of_ble_eq_true rfl) rfl ?_
        have key : ∀ p, p ≤ tpl T i → (∀ j, j < p → dg k j < tn T) → J Γ 30 [some (.inr 50), some (.inl (nI i)), some (.inl (nI k)), some (.inl (nI p))] [] σ := by
          refine loopN (tpl T i) ?_ ?_
          · intro h0
            refine j_iload_n c dX3_isCall_30 rfl ?_
            refine j_aload_n c dX3_isCall_31 rfl ?_
            refine j_getR c fl_X3_22 dX3_isCall_32 (Nat.le_of_ble_eq_true rfl) rfl rfl ?_
            refine j_iload_n c dX3_isCall_35 rfl ?_
            refine j_iald c dX3_isCall_36 (Nat.le_of_ble_eq_true rfl) rfl rfl (by omega) (by decide) ?_
            rw [hp55]
            refine j_icmp_ge c 60 dX3_isCall_37 (by decide) (fun _ => ?_) (fun h => absurd (nI_le (Nat.le_refl _) (by omega)) h)
            refine j_iconst c (nI 1) dX3_isCall_60 (by decide) ?_
            exact j_iret c r dX3_isCall_61 rfl (rtT (vcall_of e hpl.2 hn.1 h0))
          · intro p hp ih h0
            refine j_iload_n c dX3_isCall_30 rfl ?_
            refine j_aload_n c dX3_isCall_31 rfl ?_
            refine j_getR c fl_X3_22 dX3_isCall_32 (Nat.le_of_ble_eq_true rfl) rfl rfl ?_
            refine j_iload_n c dX3_isCall_35 rfl ?_
            refine j_iald c dX3_isCall_36 (Nat.le_of_ble_eq_true rfl) rfl rfl (by omega) (by decide) ?_
            rw [hp55]
            refine j_icmp_ge c 60 dX3_isCall_37 (by decide) (fun h => absurd h (nI_ge hp (by omega))) (fun _ => ?_)
            refine j_aload_n c dX3_isCall_40 rfl ?_
            refine j_iload_n c dX3_isCall_41 rfl ?_
            refine j_iload_n c dX3_isCall_42 rfl ?_
            refine j_callS1 c kw_X3_107 (sp_digit σ k p hk (by omega)) dX3_isCall_43 rfl rfl (by decide) (Nat.le_of_ble_eq_true rfl) ?_
            refine j_callV1 c kw_X3_87 (sp_isClass σ (nI (dg k p)) (tn T) hM.1 hn.1 hn.2) dX3_isCall_46 rfl rfl (by decide) (Nat.le_of_ble_eq_true rfl) (Nat.le_of_ble_eq_true rfl) rfl rfl ?_
            have hd := dg_lt k p
            rw [isN_nI (by omega)]
            refine j_if_ne c 54 dX3_isCall_49 (by decide) (fun q => ?_) (fun q => ?_)
            · refine j_iinc c _ dX3_isCall_54 rfl (by first | exact nI_1 _ | exact pk_m1 _ | rfl) rfl ?_
              refine j_goto c 30 dX3_isCall_57 (by decide) ?_
              refine ih (fun j hj => ?_)
              by_cases ej : j = p
              · subst ej; simpa [bI_ne0] using q
              · exact h0 j (by omega)
            · refine j_iconst c (nI 0) dX3_isCall_52 (by decide) ?_
              exact j_iret c r dX3_isCall_53 rfl (rtF (vcall_no (p := p) hn.1 hpl.2 (by simpa [bI_ne0] using q)))
        exact key 0 (by omega) (fun j hj => by omega)
      · rw [nI_ltI hk (by omega)] at e
        refine j_iconst c (nI 0) dX3_isCall_26 (by decide) ?_
        exact j_iret c r dX3_isCall_27 rfl (rtF (by simp [vcall, e]))
theorem sp_callsOf {T : TS} {mo : Option (Nat × Nat)} {σ : Sg} (hM : InvM T mo σ) (hW : WF T) {f : Nat} (hf : f < tnf T) : Sp yX3_callsOf cX3_callsOf 2 (some .int) 0 [.inr 50, .inl (nI f)] σ (rt σ (.inl (nI (16 ^ tpl T f)))) := by
  have hpl := hW.2.2.2.2.1 f hf
  have h4 := hW.2.2.2.1
  refine Sp.intro rfl (Nat.le_of_ble_eq_true rfl) (fun Γ c r => ?_)
  show J Γ 0 [some (.inr 50), some (.inl (nI f))] [] σ
  refine j_iconst c (nI 1) dX3_callsOf_0 (by decide) ?_
  refine j_iconst c (nI 4) dX3_callsOf_1 (by decide) ?_
  refine j_aload_n c dX3_callsOf_2 rfl ?_
  refine j_getR c fl_X3_22 dX3_callsOf_3 (Nat.le_of_ble_eq_true rfl) rfl rfl ?_
  refine j_iload_n c dX3_callsOf_6 rfl ?_
  refine j_iald c dX3_callsOf_7 (Nat.le_of_ble_eq_true rfl) rfl rfl (by omega) (by decide) ?_
  rw [hM.2.2.2.2.2.2.1 f hf]
  refine j_imul c _ dX3_callsOf_8 (by first | exact pk_mul _ _ | rfl) ?_
  refine j_ishl c _ dX3_callsOf_9 (shl16 hpl.2) ?_
  exact j_iret c r dX3_callsOf_10 rfl ⟨rfl, rfl⟩
theorem sp_allCalls {T : TS} {mo : Option (Nat × Nat)} {σ : Sg} (hM : InvM T mo σ) (hW : WF T) {f : Nat} (hf : f < tnf T) : Sp yX3_allCalls cX3_allCalls 4 (some .int) 0 [.inr 50, .inl (nI f)] σ (rt σ (.inl (nI (tn T ^ tpl T f)))) := by
  have hpl := hW.2.2.2.2.1 f hf
  have h4 := hW.2.2.2.1
  have hp55 := hM.2.2.2.2.2.2.1 f hf
  refine Sp.intro rfl (Nat.le_of_ble_eq_true rfl) (fun Γ c r => ?_)
  show J Γ 0 [some (.inr 50), some (.inl (nI f)), none, none] [] σ
  refine j_iconst c (nI 1) dX3_allCalls_0 (by decide) ?_
  refine j_istore_n c dX3_allCalls_1 (Nat.le_of_ble_eq_true rfl) rfl ?_
  refine j_iconst c (nI 0) dX3_allCalls_2 (by decide) ?_
  refine j_istore_n c dX3_allCalls_3 (Nat.le_of_ble_eq_true rfl) rfl ?_
  have key : ∀ k, k ≤ tpl T f → J Γ 4 [some (.inr 50), some (.inl (nI f)), some (.inl (nI (tn T ^ k))), some (.inl (nI k))] [] σ := by
    refine loopN (tpl T f) ?_ ?_
    · refine j_iload_n c dX3_allCalls_4 rfl ?_
      refine j_aload_n c dX3_allCalls_5 rfl ?_
      refine j_getR c fl_X3_22 dX3_allCalls_6 (Nat.le_of_ble_eq_true rfl) rfl rfl ?_
      refine j_iload_n c dX3_allCalls_9 rfl ?_
      refine j_iald c dX3_allCalls_10 (Nat.le_of_ble_eq_true rfl) rfl rfl (by omega) (by decide) ?_
      rw [hp55]
      refine j_icmp_ge c 27 dX3_allCalls_11 (by decide) (fun _ => ?_) (fun h => absurd (nI_le (Nat.le_refl _) (by omega)) h)
      refine j_iload_n c dX3_allCalls_27 rfl ?_
      exact j_iret c r dX3_allCalls_28 rfl ⟨rfl, rfl⟩
    · intro k hk ih
      refine j_iload_n c dX3_allCalls_4 rfl ?_
      refine j_aload_n c dX3_allCalls_5 rfl ?_
      refine j_getR c fl_X3_22 dX3_allCalls_6 (Nat.le_of_ble_eq_true rfl) rfl rfl ?_
      refine j_iload_n c dX3_allCalls_9 rfl ?_
      refine j_iald c dX3_allCalls_10 (Nat.le_of_ble_eq_true rfl) rfl rfl (by omega) (by decide) ?_
      rw [hp55]
      refine j_icmp_ge c 27 dX3_allCalls_11 (by decide) (fun h => absurd h (nI_ge hk (by omega))) (fun _ => ?_)
      refine j_iload_n c dX3_allCalls_14 rfl ?_
      refine j_aload_n c dX3_allCalls_15 rfl ?_
      refine j_getI c fl_X3_62 dX3_allCalls_16 (Nat.le_of_ble_eq_true rfl) rfl rfl ?_
      rw [hM.1]
      refine j_imul c _ dX3_allCalls_19 (show _ = nI (tn T ^ (k + 1)) from pk_mul _ _) ?_
      refine j_istore_n c dX3_allCalls_20 (Nat.le_of_ble_eq_true rfl) rfl ?_
      refine j_iinc c _ dX3_allCalls_21 rfl (by first | exact nI_1 _ | exact pk_m1 _ | rfl) rfl ?_
      refine j_goto c 4 dX3_allCalls_24 (by decide) ?_
      exact ih
  exact key 0 (by omega)
theorem sp_thrown (σ : Sg) : Sp yX3_thrown cX3_thrown 1 (some .int) 0 [.inr 50] σ (rt σ (.inl (σ 50 0))) := by
  refine Sp.intro rfl (Nat.le_of_ble_eq_true rfl) (fun Γ c r => ?_)
  show J Γ 0 [some (.inr 50)] [] σ
  refine j_aload_n c dX3_thrown_0 rfl ?_
  refine j_getI c fl_X3_65 dX3_thrown_1 (Nat.le_of_ble_eq_true rfl) rfl rfl ?_
  exact j_iret c r dX3_thrown_4 rfl ⟨rfl, rfl⟩
