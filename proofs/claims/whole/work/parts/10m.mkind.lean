-- ===== 10m: the reference's classes =====
def RowsM (σ : Sg) (rs : Nat → List Nat) : Prop := ∀ k, k < 4 → ∃ a, a + (rs k).length ≤ 16 ∧ σ 62 k = nI a ∧ σ 63 k = nI (a + (rs k).length) ∧ ∀ j v, (rs k)[j]? = some v → σ 61 (16 * k + (a + j)) = nI v
theorem sp_standsBehind {σ : Sg} {rs : Nat → List Nat} (hR : RowsM σ rs) (hv : ∀ k d, k < 4 → d ∈ rs k → d < 16) {x : Nat} (hx : x < 16) : Sp yX3_standsBehind cX3_standsBehind 4 (some .boolean) 0 [.inr 50, .inl (nI x)] σ (rt σ (.inl (bI (behB rs 4 x)))) := by
  refine Sp.intro rfl (Nat.le_of_ble_eq_true rfl) (fun Γ c r => ?_)
  show J Γ 0 [some (.inr 50), some (.inl (nI x)), none, none] [] σ
  refine j_iconst c (nI 0) dX3_standsBehind_0 (by decide) ?_
  refine j_istore_n c dX3_standsBehind_1 (Nat.le_of_ble_eq_true rfl) rfl ?_
  have key : ∀ k, k ≤ 4 → (∀ j, j < k → x ∉ (rs j).tail) → ∀ u : Option PV, J Γ 2 [some (.inr 50), some (.inl (nI x)), some (.inl (nI k)), u] [] σ := by
    refine loopN 4 ?_ ?_
    · intro h0 u
      refine j_iload_n c dX3_standsBehind_2 rfl ?_
      refine j_iconst c (nI 4) dX3_standsBehind_3 (by decide) ?_
      refine j_icmp_ge c 55 dX3_standsBehind_4 (by decide) (fun _ => ?_) (fun h => absurd (nI_le (Nat.le_refl _) (by decide)) h)
      refine j_iconst c (nI 0) dX3_standsBehind_55 (by decide) ?_
      exact j_iret c r dX3_standsBehind_56 rfl (rtF (by
        cases h : behB rs 4 x with
        | false => rfl
        | true =>
          obtain ⟨k, hk, h1⟩ := anyU.mp h
          exact absurd (by simpa using h1) (h0 k hk)))
    · intro k hk ih h0 u
      obtain ⟨a, ha, h62, h63, h61⟩ := hR k hk
      refine j_iload_n c dX3_standsBehind_2 rfl ?_
      refine j_iconst c (nI 4) dX3_standsBehind_3 (by decide) ?_
      refine j_icmp_ge c 55 dX3_standsBehind_4 (by decide) (fun h => absurd h (nI_ge hk (by decide))) (fun _ => ?_)
      refine j_aload_n c dX3_standsBehind_7 rfl ?_
      refine j_getR c fl_X3_43 dX3_standsBehind_8 (Nat.le_of_ble_eq_true rfl) rfl rfl ?_
      refine j_iload_n c dX3_standsBehind_11 rfl ?_
      refine j_iald c dX3_standsBehind_12 (Nat.le_of_ble_eq_true rfl) rfl rfl (by omega) (by decide) ?_
      rw [h62]
      refine j_iconst c (nI 1) dX3_standsBehind_13 (by decide) ?_
      refine j_iadd c _ dX3_standsBehind_14 (by first | exact nI_add _ _ | rfl) ?_
      refine j_istore_n c dX3_standsBehind_15 (Nat.le_of_ble_eq_true rfl) rfl ?_
      have inner : ∀ n, a + 1 ≤ n → n ≤ a + (rs k).length → (∀ j, a + 1 ≤ j → j < n → (rs k)[j - a]? ≠ some x) → J Γ 16 [some (.inr 50), some (.inl (nI x)), some (.inl (nI k)), some (.inl (nI n))] [] σ := by
        intro n h1 h2
        have h3 : ∀ m, m ≤ a + (rs k).length → a + 1 ≤ m → (∀ j, a + 1 ≤ j → j < m → (rs k)[j - a]? ≠ some x) → J Γ 16 [some (.inr 50), some (.inl (nI x)), some (.inl (nI k)), some (.inl (nI m))] [] σ := by
          refine loopN _ ?_ ?_
          · intro h1 h0n
            refine j_iload_n c dX3_standsBehind_16 rfl ?_
            refine j_aload_n c dX3_standsBehind_17 rfl ?_
            refine j_getR c fl_X3_46 dX3_standsBehind_18 (Nat.le_of_ble_eq_true rfl) rfl rfl ?_
            refine j_iload_n c dX3_standsBehind_21 rfl ?_
            refine j_iald c dX3_standsBehind_22 (Nat.le_of_ble_eq_true rfl) rfl rfl (by omega) (by decide) ?_
            rw [h63]
            refine j_icmp_ge c 49 dX3_standsBehind_23 (by decide) (fun _ => ?_) (fun h => absurd (nI_le (Nat.le_refl _) (by omega)) h)
            refine j_iinc c _ dX3_standsBehind_49 rfl (by first | exact nI_1 _ | exact pk_m1 _ | rfl) rfl ?_
            refine j_goto c 2 dX3_standsBehind_52 (by decide) ?_
            refine ih (fun j hj => ?_) _
            by_cases ej : j = k
            · subst ej
              intro hm
              obtain ⟨q, hq⟩ := List.getElem?_of_mem hm
              rw [List.getElem?_tail] at hq
              have hql := (List.getElem?_eq_some_iff.mp hq).1
              exact h0n (a + (q + 1)) (by omega) (by omega) (by rw [Nat.add_sub_cancel_left]; exact hq)
            · exact h0 j (by omega)
          · intro m hm ihm h1 h0n
            obtain ⟨z, hz⟩ : ∃ z, (rs k)[m - a]? = some z := ⟨_, List.getElem?_eq_getElem (by omega)⟩
            have hz2 := hv k z hk (List.mem_of_getElem? hz)
            have hz1 := h61 (m - a) z hz
            rw [show a + (m - a) = m by omega] at hz1
            refine j_iload_n c dX3_standsBehind_16 rfl ?_
            refine j_aload_n c dX3_standsBehind_17 rfl ?_
            refine j_getR c fl_X3_46 dX3_standsBehind_18 (Nat.le_of_ble_eq_true rfl) rfl rfl ?_
            refine j_iload_n c dX3_standsBehind_21 rfl ?_
            refine j_iald c dX3_standsBehind_22 (Nat.le_of_ble_eq_true rfl) rfl rfl (by omega) (by decide) ?_
            rw [h63]
            refine j_icmp_ge c 49 dX3_standsBehind_23 (by decide) (fun h => absurd h (nI_ge hm (by omega))) (fun _ => ?_)
            refine j_aload_n c dX3_standsBehind_26 rfl ?_
            refine j_getR c fl_X3_40 dX3_standsBehind_27 (Nat.le_of_ble_eq_true rfl) rfl rfl ?_
            refine j_bipush c (nI 16) dX3_standsBehind_30 (by decide) ?_
            refine j_iload_n c dX3_standsBehind_32 rfl ?_
            refine j_imul c _ dX3_standsBehind_33 (by first | exact pk_mul _ _ | rfl) ?_
            refine j_iload_n c dX3_standsBehind_34 rfl ?_
            refine j_iadd c _ dX3_standsBehind_35 (by first | exact nI_add _ _ | rfl) ?_
            refine j_iald c dX3_standsBehind_36 (Nat.le_of_ble_eq_true rfl) rfl rfl (by omega) (by decide) ?_
            rw [hz1]
            refine j_iload_n c dX3_standsBehind_37 rfl ?_
            refine j_icmp_ne c 43 dX3_standsBehind_38 (by decide) (fun e => ?_) (fun e => ?_)
            · rw [nI_eq (by omega) (by omega)] at e
              refine j_iinc c _ dX3_standsBehind_43 rfl (by first | exact nI_1 _ | exact pk_m1 _ | rfl) rfl ?_
              refine j_goto c 16 dX3_standsBehind_46 (by decide) ?_
              refine ihm (by omega) (fun j h2 h3 => ?_)
              by_cases ej : j = m
              · subst ej; rw [hz]; intro h; cases h; exact e rfl
              · exact h0n j h2 (by omega)
            · rw [nI_eq (by omega) (by omega)] at e
              subst e
              refine j_iconst c (nI 1) dX3_standsBehind_41 (by decide) ?_
              exact j_iret c r dX3_standsBehind_42 rfl (rtT (anyU.mpr ⟨k, hk, by
                simp only [decide_eq_true_eq]
                refine List.mem_of_getElem? (i := m - a - 1) ?_
                rw [List.getElem?_tail, show m - a - 1 + 1 = m - a by omega]
                exact hz⟩))
        exact h3 n h2 h1
      by_cases hl : (rs k).length = 0
      · refine j_iload_n c dX3_standsBehind_16 rfl ?_
        refine j_aload_n c dX3_standsBehind_17 rfl ?_
        refine j_getR c fl_X3_46 dX3_standsBehind_18 (Nat.le_of_ble_eq_true rfl) rfl rfl ?_
        refine j_iload_n c dX3_standsBehind_21 rfl ?_
        refine j_iald c dX3_standsBehind_22 (Nat.le_of_ble_eq_true rfl) rfl rfl (by omega) (by decide) ?_
        rw [h63]
        refine j_icmp_ge c 49 dX3_standsBehind_23 (by decide) (fun _ => ?_) (fun h => absurd (nI_le (by omega) (by omega)) h)
        refine j_iinc c _ dX3_standsBehind_49 rfl (by first | exact nI_1 _ | exact pk_m1 _ | rfl) rfl ?_
        refine j_goto c 2 dX3_standsBehind_52 (by decide) ?_
        refine ih (fun j hj => ?_) _
        by_cases ej : j = k
        · subst ej; rw [List.length_eq_zero_iff.mp hl]; simp
        · exact h0 j (by omega)
      · exact inner (a + 1) (Nat.le_refl _) (by omega) (fun j h1 h2 => by omega)
  exact key 0 (Nat.zero_le _) (fun j hj => by omega) none
theorem sp_comesNext {σ : Sg} {rs : Nat → List Nat} (hR : RowsM σ rs) (hv : ∀ k d, k < 4 → d ∈ rs k → d < 16) : Sp yX3_comesNext cX3_comesNext 2 (some .int) 1 [.inr 50] σ (rt σ (.inl (oI (mNx rs 4)))) := by
  refine Sp.intro rfl (Nat.le_of_ble_eq_true rfl) (fun Γ c r => ?_)
  show J Γ 0 [some (.inr 50), none] [] σ
  refine j_iconst c (nI 0) dX3_comesNext_0 (by decide) ?_
  refine j_istore_n c dX3_comesNext_1 (Nat.le_of_ble_eq_true rfl) rfl ?_
  have key : ∀ k, k ≤ 4 → (∀ j, j < k → nxP rs 4 j = false) → J Γ 2 [some (.inr 50), some (.inl (nI k))] [] σ := by
    refine loopN 4 ?_ ?_
    · intro h0
      refine j_iload_n c dX3_comesNext_2 rfl ?_
      refine j_iconst c (nI 4) dX3_comesNext_3 (by decide) ?_
      refine j_icmp_ge c 68 dX3_comesNext_4 (by decide) (fun _ => ?_) (fun h => absurd (nI_le (Nat.le_refl _) (by decide)) h)
      refine j_iconst c (-1) dX3_comesNext_68 (by decide) ?_
      exact j_iret c r dX3_comesNext_69 rfl ⟨by unfold mNx; rw [fnd_no h0]; rfl, rfl⟩
    · intro k hk ih h0
      obtain ⟨a, ha, h62, h63, h61⟩ := hR k hk
      have nxt : nxP rs 4 k = false → J Γ 62 [some (.inr 50), some (.inl (nI k))] [] σ := by
        intro h
        refine j_iinc c _ dX3_comesNext_62 rfl (by first | exact nI_1 _ | exact pk_m1 _ | rfl) rfl ?_
        refine j_goto c 2 dX3_comesNext_65 (by decide) ?_
        refine ih (fun j hj => ?_)
        by_cases ej : j = k
        · subst ej; exact h
        · exact h0 j (by omega)
      refine j_iload_n c dX3_comesNext_2 rfl ?_
      refine j_iconst c (nI 4) dX3_comesNext_3 (by decide) ?_
      refine j_icmp_ge c 68 dX3_comesNext_4 (by decide) (fun h => absurd h (nI_ge hk (by decide))) (fun _ => ?_)
      refine j_aload_n c dX3_comesNext_7 rfl ?_
      refine j_getR c fl_X3_43 dX3_comesNext_8 (Nat.le_of_ble_eq_true rfl) rfl rfl ?_
      refine j_iload_n c dX3_comesNext_11 rfl ?_
      refine j_iald c dX3_comesNext_12 (Nat.le_of_ble_eq_true rfl) rfl rfl (by omega) (by decide) ?_
      rw [h62]
      refine j_aload_n c dX3_comesNext_13 rfl ?_
      refine j_getR c fl_X3_46 dX3_comesNext_14 (Nat.le_of_ble_eq_true rfl) rfl rfl ?_
      refine j_iload_n c dX3_comesNext_17 rfl ?_
      refine j_iald c dX3_comesNext_18 (Nat.le_of_ble_eq_true rfl) rfl rfl (by omega) (by decide) ?_
      rw [h63]
      cases hr : rs k with
      | nil =>
        refine j_icmp_ge c 62 dX3_comesNext_19 (by decide) (fun _ => ?_) (fun h => absurd (nI_le (by simp) (by simp; omega)) h)
        exact nxt (by unfold nxP; rw [hr])
      | cons z q =>
        rw [hr] at ha
        have hz2 := hv k z hk (by rw [hr]; exact List.mem_cons_self)
        have hz1 := h61 0 z (by rw [hr]; rfl)
        rw [Nat.add_zero] at hz1
        simp only [List.length_cons] at ha
        refine j_icmp_ge c 62 dX3_comesNext_19 (by decide) (fun h => absurd h (nI_ge (by simp only [List.length_cons]; omega) (by simp only [List.length_cons]; omega))) (fun _ => ?_)
        refine j_aload_n c dX3_comesNext_22 rfl ?_
        refine j_aload_n c dX3_comesNext_23 rfl ?_
        refine j_getR c fl_X3_40 dX3_comesNext_24 (Nat.le_of_ble_eq_true rfl) rfl rfl ?_
        refine j_bipush c (nI 16) dX3_comesNext_27 (by decide) ?_
        refine j_iload_n c dX3_comesNext_29 rfl ?_
        refine j_imul c _ dX3_comesNext_30 (by first | exact pk_mul _ _ | rfl) ?_
        refine j_aload_n c dX3_comesNext_31 rfl ?_
        refine j_getR c fl_X3_43 dX3_comesNext_32 (Nat.le_of_ble_eq_true rfl) rfl rfl ?_
        refine j_iload_n c dX3_comesNext_35 rfl ?_
        refine j_iald c dX3_comesNext_36 (Nat.le_of_ble_eq_true rfl) rfl rfl (by omega) (by decide) ?_
        rw [h62]
        refine j_iadd c _ dX3_comesNext_37 (by first | exact nI_add _ _ | rfl) ?_
        refine j_iald c dX3_comesNext_38 (by first | exact (Nat.le_of_ble_eq_true rfl) | exact hp.lt (by decide)) (by first | exact lf1 hp | exact lf2 hp | exact lf3 hp | exact lf4 hp | exact lf5 hp | exact lf6 hp | rfl) rfl (by omega) (by decide) ?_
        rw [hz1]
        refine j_callV1 c kw_X3_75 (sp_standsBehind hR hv hz2) dX3_comesNext_39 rfl rfl (by decide) (Nat.le_of_ble_eq_true rfl) (Nat.le_of_ble_eq_true rfl) rfl rfl ?_
        refine j_if_ne c 62 dX3_comesNext_42 (by decide) (fun e => ?_) (fun e => ?_)
        · exact nxt (by unfold nxP; rw [hr]; show (!behB rs 4 z) = false; rw [bI_nz e]; rfl)
        · refine j_aload_n c dX3_comesNext_45 rfl ?_
          refine j_getR c fl_X3_40 dX3_comesNext_46 (Nat.le_of_ble_eq_true rfl) rfl rfl ?_
          refine j_bipush c (nI 16) dX3_comesNext_49 (by decide) ?_
          refine j_iload_n c dX3_comesNext_51 rfl ?_
          refine j_imul c _ dX3_comesNext_52 (by first | exact pk_mul _ _ | rfl) ?_
          refine j_aload_n c dX3_comesNext_53 rfl ?_
          refine j_getR c fl_X3_43 dX3_comesNext_54 (Nat.le_of_ble_eq_true rfl) rfl rfl ?_
          refine j_iload_n c dX3_comesNext_57 rfl ?_
          refine j_iald c dX3_comesNext_58 (Nat.le_of_ble_eq_true rfl) rfl rfl (by omega) (by decide) ?_
          rw [h62]
          refine j_iadd c _ dX3_comesNext_59 (by first | exact nI_add _ _ | rfl) ?_
          refine j_iald c dX3_comesNext_60 (by first | exact (Nat.le_of_ble_eq_true rfl) | exact hp.lt (by decide)) (by first | exact lf1 hp | exact lf2 hp | exact lf3 hp | exact lf4 hp | exact lf5 hp | exact lf6 hp | rfl) rfl (by omega) (by decide) ?_
          rw [hz1]
          exact j_iret c r dX3_comesNext_61 rfl ⟨by
            unfold mNx
            rw [fnd_hit hk (by unfold nxP; rw [hr]; show (!behB rs 4 z) = true; rw [bI_z e]; rfl) h0]
            show _ = some (Sum.inl (oI ((rs k).head?)))
            rw [hr]
            rfl, rfl⟩
  exact key 0 (Nat.zero_le _) (fun j hj => by omega)
theorem sp_isLeft {σ : Sg} {rs : Nat → List Nat} (hR : RowsM σ rs) : Sp yX3_isLeft cX3_isLeft 3 (some .boolean) 0 [.inr 50] σ (rt σ (.inl (bI (lfB rs 4)))) := by
  refine Sp.intro rfl (Nat.le_of_ble_eq_true rfl) (fun Γ c r => ?_)
  show J Γ 0 [some (.inr 50), none, none] [] σ
  refine j_iconst c (nI 0) dX3_isLeft_0 (by decide) ?_
  refine j_istore_n c dX3_isLeft_1 (Nat.le_of_ble_eq_true rfl) rfl ?_
  refine j_iconst c (nI 0) dX3_isLeft_2 (by decide) ?_
  refine j_istore_n c dX3_isLeft_3 (Nat.le_of_ble_eq_true rfl) rfl ?_
  have key : ∀ k, k ≤ 4 → J Γ 4 [some (.inr 50), some (.inl (bI (lfB rs k))), some (.inl (nI k))] [] σ := by
    refine loopN 4 ?_ ?_
    · refine j_iload_n c dX3_isLeft_4 rfl ?_
      refine j_iconst c (nI 4) dX3_isLeft_5 (by decide) ?_
      refine j_icmp_ge c 40 dX3_isLeft_6 (by decide) (fun _ => ?_) (fun h => absurd (nI_le (Nat.le_refl _) (by decide)) h)
      refine j_iload_n c dX3_isLeft_40 rfl ?_
      exact j_iret c r dX3_isLeft_41 (narrow_bI _) ⟨rfl, rfl⟩
    · intro k hk ih
      obtain ⟨a, ha, h62, h63, h61⟩ := hR k hk
      have hs : lfB rs (k + 1) = (lfB rs k || !(rs k).isEmpty) := by
        unfold lfB
        rw [List.range_succ, List.any_append]
        simp
      refine j_iload_n c dX3_isLeft_4 rfl ?_
      refine j_iconst c (nI 4) dX3_isLeft_5 (by decide) ?_
      refine j_icmp_ge c 40 dX3_isLeft_6 (by decide) (fun h => absurd h (nI_ge hk (by decide))) (fun _ => ?_)
      refine j_iload_n c dX3_isLeft_9 rfl ?_
      refine j_if_ne c 28 dX3_isLeft_10 (by decide) (fun e => ?_) (fun e => ?_)
      · have e2 := bI_nz e
        rw [hs, e2] at ih
        refine j_iconst c (nI 1) dX3_isLeft_28 (by decide) ?_
        refine j_goto c 33 dX3_isLeft_29 (by decide) ?_
        refine j_istore_n c dX3_isLeft_33 (Nat.le_of_ble_eq_true rfl) rfl ?_
        refine j_iinc c _ dX3_isLeft_34 rfl (by first | exact nI_1 _ | exact pk_m1 _ | rfl) rfl ?_
        refine j_goto c 4 dX3_isLeft_37 (by decide) ?_
        exact ih
      · have e2 := bI_z e
        rw [hs, e2, Bool.false_or] at ih
        refine j_aload_n c dX3_isLeft_13 rfl ?_
        refine j_getR c fl_X3_43 dX3_isLeft_14 (Nat.le_of_ble_eq_true rfl) rfl rfl ?_
        refine j_iload_n c dX3_isLeft_17 rfl ?_
        refine j_iald c dX3_isLeft_18 (Nat.le_of_ble_eq_true rfl) rfl rfl (by omega) (by decide) ?_
        rw [h62]
        refine j_aload_n c dX3_isLeft_19 rfl ?_
        refine j_getR c fl_X3_46 dX3_isLeft_20 (Nat.le_of_ble_eq_true rfl) rfl rfl ?_
        refine j_iload_n c dX3_isLeft_23 rfl ?_
        refine j_iald c dX3_isLeft_24 (Nat.le_of_ble_eq_true rfl) rfl rfl (by omega) (by decide) ?_
        rw [h63]
        by_cases h0 : (rs k).length = 0
        · refine j_icmp_ge c 32 dX3_isLeft_25 (by decide) (fun _ => ?_) (fun h => absurd (nI_le (by omega) (by omega)) h)
          rw [List.length_eq_zero_iff.mp h0] at ih
          refine j_iconst c (nI 0) dX3_isLeft_32 (by decide) ?_
          refine j_istore_n c dX3_isLeft_33 (Nat.le_of_ble_eq_true rfl) rfl ?_
          refine j_iinc c _ dX3_isLeft_34 rfl (by first | exact nI_1 _ | exact pk_m1 _ | rfl) rfl ?_
          refine j_goto c 4 dX3_isLeft_37 (by decide) ?_
          exact ih
        · refine j_icmp_ge c 32 dX3_isLeft_25 (by decide) (fun h => absurd h (nI_ge (by omega) (by omega))) (fun _ => ?_)
          have : (rs k).isEmpty = false := by
            cases hr : rs k with
            | nil => rw [hr] at h0; simp at h0
            | cons z q => rfl
          rw [this] at ih
          refine j_iconst c (nI 1) dX3_isLeft_28 (by decide) ?_
          refine j_goto c 33 dX3_isLeft_29 (by decide) ?_
          refine j_istore_n c dX3_isLeft_33 (Nat.le_of_ble_eq_true rfl) rfl ?_
          refine j_iinc c _ dX3_isLeft_34 rfl (by first | exact nI_1 _ | exact pk_m1 _ | rfl) rfl ?_
          refine j_goto c 4 dX3_isLeft_37 (by decide) ?_
          exact ih
  exact key 0 (Nat.zero_le _)
