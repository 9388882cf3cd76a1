-- ===== 10a: the reference's small methods =====
theorem sp_in (σ : Sg) (v lo hi : Int32) : Sp yX3_in cX3_in 3 (some .boolean) 0 [.inl v, .inl lo, .inl hi] σ (rt σ (.inl (bI (decide (lo ≤ v) && decide (v ≤ hi))))) := by
  refine Sp.intro rfl (Nat.le_of_ble_eq_true rfl) (fun Γ c r => ?_)
  show J Γ 0 [some (.inl v), some (.inl lo), some (.inl hi)] [] σ
  refine j_iload_n c dX3_in_0 rfl ?_
  refine j_iload_n c dX3_in_1 rfl ?_
  refine j_icmp_lt c 14 dX3_in_2 (by decide) (fun h => ?_) (fun h => ?_)
  · refine j_iconst c (nI 0) dX3_in_14 (by decide) ?_
    exact j_iret c r dX3_in_15 rfl (rtF (by simp [Int32.not_le.mpr h]))
  · refine j_iload_n c dX3_in_5 rfl ?_
    refine j_iload_n c dX3_in_6 rfl ?_
    refine j_icmp_gt c 14 dX3_in_7 (by decide) (fun g => ?_) (fun g => ?_)
    · refine j_iconst c (nI 0) dX3_in_14 (by decide) ?_
      exact j_iret c r dX3_in_15 rfl (rtF (by simp [Int32.not_le.mpr g]))
    · refine j_iconst c (nI 1) dX3_in_10 (by decide) ?_
      refine j_goto c 15 dX3_in_11 (by decide) ?_
      exact j_iret c r dX3_in_15 rfl (rtT (by simp [Int32.not_lt.mp h, Int32.not_lt.mp g]))
theorem sp_inN (σ : Sg) (v : Int32) (n : Nat) (hn : n < 2 ^ 31) (hn0 : 1 ≤ n) : Sp yX3_in cX3_in 3 (some .boolean) 0 [.inl v, .inl (nI 0), .inl (nI (n - 1))] σ (rt σ (.inl (bI (isN v n)))) := by
  have h := sp_in σ v (nI 0) (nI (n - 1))
  have e : (decide (nI 0 ≤ v) && decide (v ≤ nI (n - 1))) = isN v n := by
    unfold isN
    simp only [Int32.le_iff_toInt_le, nI_toInt (show 0 < 2 ^ 31 by decide), nI_toInt (show n - 1 < 2 ^ 31 by omega)]
    congr 1
    simp only [decide_eq_decide]
    omega
  rw [e] at h
  exact h
theorem sp_isOn (σ : Sg) (x : Int32) (k : Nat) (hk : k < 32) : Sp yX3_isOn cX3_isOn 2 (some .boolean) 0 [.inl x, .inl (nI k)] σ (rt σ (.inl (bI (bt x k)))) := by
  refine Sp.intro rfl (Nat.le_of_ble_eq_true rfl) (fun Γ c r => ?_)
  show J Γ 0 [some (.inl x), some (.inl (nI k))] [] σ
  refine j_iload_n c dX3_isOn_0 rfl ?_
  refine j_iload_n c dX3_isOn_1 rfl ?_
  refine j_ishr c _ dX3_isOn_2 rfl ?_
  refine j_iconst c (nI 1) dX3_isOn_3 (by decide) ?_
  refine j_iand c _ dX3_isOn_4 (bt_shr x hk) ?_
  refine j_iconst c (nI 1) dX3_isOn_5 (by decide) ?_
  refine j_icmp_ne c 13 dX3_isOn_6 (by decide) (fun h => ?_) (fun h => ?_)
  · refine j_iconst c (nI 0) dX3_isOn_13 (by decide) ?_
    exact j_iret c r dX3_isOn_14 rfl (rtF (by simpa [bI_eq1] using h))
  · refine j_iconst c (nI 1) dX3_isOn_9 (by decide) ?_
    refine j_goto c 14 dX3_isOn_10 (by decide) ?_
    exact j_iret c r dX3_isOn_14 rfl (rtT (by simpa [bI_eq1] using h))
theorem sp_digit (σ : Sg) (x p : Nat) (hx : x < 2 ^ 31) (hp : p < 8) : Sp yX3_digit cX3_digit 2 (some .int) 0 [.inl (nI x), .inl (nI p)] σ (rt σ (.inl (nI (dg x p)))) := by
  refine Sp.intro rfl (Nat.le_of_ble_eq_true rfl) (fun Γ c r => ?_)
  show J Γ 0 [some (.inl (nI x)), some (.inl (nI p))] [] σ
  refine j_iload_n c dX3_digit_0 rfl ?_
  refine j_iconst c (nI 4) dX3_digit_1 (by decide) ?_
  refine j_iload_n c dX3_digit_2 rfl ?_
  refine j_imul c _ dX3_digit_3 (by first | exact pk_mul _ _ | rfl) ?_
  refine j_ishr c _ dX3_digit_4 rfl ?_
  refine j_bipush c (nI 15) dX3_digit_5 (by decide) ?_
  refine j_iand c _ dX3_digit_7 (dg_shr hx hp) ?_
  exact j_iret c r dX3_digit_8 rfl ⟨rfl, rfl⟩
theorem sp_isClass (σ : Sg) (x : Int32) (n : Nat) (h1 : σ 50 1 = nI n) (hn : 1 ≤ n) (hn2 : n ≤ 16) : Sp yX3_isClass cX3_isClass 2 (some .boolean) 1 [.inr 50, .inl x] σ (rt σ (.inl (bI (isN x n)))) := by
  refine Sp.intro rfl (Nat.le_of_ble_eq_true rfl) (fun Γ c r => ?_)
  show J Γ 0 [some (.inr 50), some (.inl x)] [] σ
  refine j_iload_n c dX3_isClass_0 rfl ?_
  refine j_iconst c (nI 0) dX3_isClass_1 (by decide) ?_
  refine j_aload_n c dX3_isClass_2 rfl ?_
  refine j_getI c fl_X3_62 dX3_isClass_3 (Nat.le_of_ble_eq_true rfl) rfl rfl ?_
  rw [h1]
  refine j_iconst c (nI 1) dX3_isClass_6 (by decide) ?_
  refine j_isub c _ dX3_isClass_7 (by first | exact pk_sub (by omega) | rfl) ?_
  refine j_callS1 c kw_X3_68 (sp_inN σ x n (by omega) hn) dX3_isClass_8 rfl rfl (by decide) (Nat.le_of_ble_eq_true rfl) ?_
  exact j_iret c r dX3_isClass_11 (narrow_bI _) ⟨rfl, rfl⟩
theorem sp_isFunction (σ : Sg) (x : Int32) (n : Nat) (h1 : σ 50 6 = nI n) (hn2 : n ≤ 4) : Sp yX3_isFunction cX3_isFunction 2 (some .boolean) 1 [.inr 50, .inl x] σ (rt σ (.inl (bI (isN x n)))) := by
  refine Sp.intro rfl (Nat.le_of_ble_eq_true rfl) (fun Γ c r => ?_)
  show J Γ 0 [some (.inr 50), some (.inl x)] [] σ
  refine j_iload_n c dX3_isFunction_0 rfl ?_
  refine j_iconst c (nI 0) dX3_isFunction_1 (by decide) ?_
  refine j_aload_n c dX3_isFunction_2 rfl ?_
  refine j_getI c fl_X3_72 dX3_isFunction_3 (Nat.le_of_ble_eq_true rfl) rfl rfl ?_
  rw [h1]
  by_cases h0 : n = 0
  · subst h0
    refine j_iconst c (nI 1) dX3_isFunction_6 (by decide) ?_
    refine j_isub c (-1) dX3_isFunction_7 (by decide) ?_
    have e : (decide (nI 0 ≤ x) && decide (x ≤ -1)) = isN x 0 := by
      unfold isN
      simp only [Int32.le_iff_toInt_le, nI_toInt (show 0 < 2 ^ 31 by decide)]
      congr 1
      simp only [decide_eq_decide]
      have : (-1 : Int32).toInt = -1 := by decide
      omega
    have hs := sp_in σ x (nI 0) (-1)
    rw [e] at hs
    refine j_callS1 c kw_X3_68 (hs) dX3_isFunction_8 rfl rfl (by decide) (Nat.le_of_ble_eq_true rfl) ?_
    exact j_iret c r dX3_isFunction_11 (narrow_bI _) ⟨rfl, rfl⟩
  · refine j_iconst c (nI 1) dX3_isFunction_6 (by decide) ?_
    refine j_isub c _ dX3_isFunction_7 (by first | exact pk_sub (by omega) | rfl) ?_
    refine j_callS1 c kw_X3_68 (sp_inN σ x n (by omega) (by omega)) dX3_isFunction_8 rfl rfl (by decide) (Nat.le_of_ble_eq_true rfl) ?_
    exact j_iret c r dX3_isFunction_11 (narrow_bI _) ⟨rfl, rfl⟩
