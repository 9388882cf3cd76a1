-- ===== 20d: the class's classes: rows, merging, add =====
def RowsX (σ : Sg) (rs : Nat → List Nat) (R : Nat) : Prop := ∀ k, k < R → ∃ a, a + (rs k).length ≤ 16 ∧ σ 9 k = nI a ∧ σ 10 k = nI (a + (rs k).length) ∧ ∀ j v, (rs k)[j]? = some v → σ 8 (16 * k + (a + j)) = nI v
theorem sp_standsBehindBegin {σ : Sg} {rs : Nat → List Nat} {R : Nat} (hR4 : R ≤ 4) (hR : RowsX σ rs R) (hv : ∀ k d, k < R → d ∈ rs k → d < 16) {x : Nat} (hx : x < 16) : Sp yX0_standsBehindBegin cX0_standsBehindBegin 5 (some .boolean) 0 [.inr 1, .inl (nI x), .inl (nI R)] σ (rt σ (.inl (bI (behB rs R x)))) := by
  refine Sp.intro rfl (Nat.le_of_ble_eq_true rfl) (fun Γ c r => ?_)
  show J Γ 0 [some (.inr 1), some (.inl (nI x)), some (.inl (nI R)), none, none] [] σ
  refine j_iconst c (nI 0) dX0_standsBehindBegin_0 (by decide) ?_
  refine j_istore_n c dX0_standsBehindBegin_1 (Nat.le_of_ble_eq_true rfl) rfl ?_
  have key : ∀ k, k ≤ R → (∀ j, j < k → x ∉ (rs j).tail) → ∀ u : Option PV, J Γ 2 [some (.inr 1), some (.inl (nI x)), some (.inl (nI R)), some (.inl (nI k)), u] [] σ := by
    refine loopN _ ?_ ?_
    · intro h0 u
      refine j_iload_n c dX0_standsBehindBegin_2 rfl ?_
      refine j_iload_n c dX0_standsBehindBegin_3 rfl ?_
      refine j_icmp_ge c 58 dX0_standsBehindBegin_4 (by decide) (fun _ => ?_) (fun h_9 => absurd (nI_le (Nat.le_refl _) (by omega)) h_9)
      refine j_iconst c (nI 0) dX0_standsBehindBegin_58 (by decide) ?_
      exact j_iret c r dX0_standsBehindBegin_59 rfl (rtF (by
        cases h : behB rs R x with
        | false => rfl
        | true =>
          obtain ⟨k, hk, h1⟩ := anyU.mp h
          exact absurd (by simpa using h1) (h0 k hk)))
    · intro k hk ih h0 u
      obtain ⟨a, ha, h62, h63, h61⟩ := hR k hk
      refine j_iload_n c dX0_standsBehindBegin_2 rfl ?_
      refine j_iload_n c dX0_standsBehindBegin_3 rfl ?_
      refine j_icmp_ge c 58 dX0_standsBehindBegin_4 (by decide) (fun h_9 => absurd h_9 (nI_ge hk (by omega))) (fun _ => ?_)
      refine j_aload_n c dX0_standsBehindBegin_7 rfl ?_
      refine j_getR c fl_X0_37 dX0_standsBehindBegin_8 (Nat.le_of_ble_eq_true rfl) rfl rfl ?_
      refine j_iload_n c dX0_standsBehindBegin_11 rfl ?_
      refine j_iald c dX0_standsBehindBegin_12 (Nat.le_of_ble_eq_true rfl) rfl rfl (by omega) (by decide) ?_
      rw [h62]
      refine j_iconst c (nI 1) dX0_standsBehindBegin_13 (by decide) ?_
      refine j_iadd c _ dX0_standsBehindBegin_14 (by first | exact nI_add _ _ | rfl) ?_
      refine j_istore c dX0_standsBehindBegin_15 (Nat.le_of_ble_eq_true rfl) rfl ?_
      have inner : ∀ n, a + 1 ≤ n → n ≤ a + (rs k).length → (∀ j, a + 1 ≤ j → j < n → (rs k)[j - a]? ≠ some x) → J Γ 17 [some (.inr 1), some (.inl (nI x)), some (.inl (nI R)), some (.inl (nI k)), some (.inl (nI n))] [] σ := by
        intro n h1 h2
        have h3 : ∀ m, m ≤ a + (rs k).length → a + 1 ≤ m → (∀ j, a + 1 ≤ j → j < m → (rs k)[j - a]? ≠ some x) → J Γ 17 [some (.inr 1), some (.inl (nI x)), some (.inl (nI R)), some (.inl (nI k)), some (.inl (nI m))] [] σ := by
          refine loopN _ ?_ ?_
          · intro h1 h0n
            refine j_iload c dX0_standsBehindBegin_17 rfl ?_
            refine j_aload_n c dX0_standsBehindBegin_19 rfl ?_
            refine j_getR c fl_X0_40 dX0_standsBehindBegin_20 (Nat.le_of_ble_eq_true rfl) rfl rfl ?_
            refine j_iload_n c dX0_standsBehindBegin_23 rfl ?_
            refine j_iald c dX0_standsBehindBegin_24 (Nat.le_of_ble_eq_true rfl) rfl rfl (by omega) (by decide) ?_
            rw [h63]
            refine j_icmp_ge c 52 dX0_standsBehindBegin_25 (by decide) (fun _ => ?_) (fun h_9 => absurd (nI_le (Nat.le_refl _) (by omega)) h_9)
            refine j_iinc c _ dX0_standsBehindBegin_52 rfl (by first | exact nI_1 _ | exact pk_m1 _ | rfl) rfl ?_
            refine j_goto c 2 dX0_standsBehindBegin_55 (by decide) ?_
            refine ih (fun j hj => ?_) _
            by_cases ej : j = k
            · subst ej
              intro hm
              obtain ⟨q, hq⟩ := List.getElem?_of_mem hm
              rw [List.getElem?_tail] at hq
              have hql := (List.getElem?_eq_some_iff.mp hq).1
              exact h0n (a + (q + 1)) (by omega) (by omega) (by rw [Nat.add_sub_cancel_left]; exact hq)
            · exact h0 j (by omega)
          · intro m hm ihm h1 h0n
            obtain ⟨z, hz⟩ : ∃ z, (rs k)[m - a]? = some z := ⟨_, List.getElem?_eq_getElem (by omega)⟩
            have hz2 := hv k z hk (List.mem_of_getElem? hz)
            have hz1 := h61 (m - a) z hz
            rw [show a + (m - a) = m by omega] at hz1
            refine j_iload c dX0_standsBehindBegin_17 rfl ?_
            refine j_aload_n c dX0_standsBehindBegin_19 rfl ?_
            refine j_getR c fl_X0_40 dX0_standsBehindBegin_20 (Nat.le_of_ble_eq_true rfl) rfl rfl ?_
            refine j_iload_n c dX0_standsBehindBegin_23 rfl ?_
            refine j_iald c dX0_standsBehindBegin_24 (Nat.le_of_ble_eq_true rfl) rfl rfl (by omega) (by decide) ?_
            rw [h63]
            refine j_icmp_ge c 52 dX0_standsBehindBegin_25 (by decide) (fun h_9 => absurd h_9 (nI_ge hm (by omega))) (fun _ => ?_)
            refine j_aload_n c dX0_standsBehindBegin_28 rfl ?_
            refine j_getR c fl_X0_34 dX0_standsBehindBegin_29 (Nat.le_of_ble_eq_true rfl) rfl rfl ?_
            refine j_bipush c (nI 16) dX0_standsBehindBegin_32 (by decide) ?_
            refine j_iload_n c dX0_standsBehindBegin_34 rfl ?_
            refine j_imul c _ dX0_standsBehindBegin_35 (by first | exact pk_mul _ _ | rfl) ?_
            refine j_iload c dX0_standsBehindBegin_36 rfl ?_
            refine j_iadd c _ dX0_standsBehindBegin_38 (by first | exact nI_add _ _ | rfl) ?_
            refine j_iald c dX0_standsBehindBegin_39 (Nat.le_of_ble_eq_true rfl) rfl rfl (by omega) (by decide) ?_
            rw [hz1]
            refine j_iload_n c dX0_standsBehindBegin_40 rfl ?_
            refine j_icmp_ne c 46 dX0_standsBehindBegin_41 (by decide) (fun e => ?_) (fun e => ?_)
            · rw [nI_eq (by omega) (by omega)] at e
              refine j_iinc c _ dX0_standsBehindBegin_46 rfl (by first | exact nI_1 _ | exact pk_m1 _ | rfl) rfl ?_
              refine j_goto c 17 dX0_standsBehindBegin_49 (by decide) ?_
              refine ihm (by omega) (fun j h2 h3 => ?_)
              by_cases ej : j = m
              · subst ej; rw [hz]; intro h; cases h; exact e rfl
              · exact h0n j h2 (by omega)
            · rw [nI_eq (by omega) (by omega)] at e
              subst e
              refine j_iconst c (nI 1) dX0_standsBehindBegin_44 (by decide) ?_
              exact j_iret c r dX0_standsBehindBegin_45 rfl (rtT (anyU.mpr ⟨k, hk, by
                simp only [decide_eq_true_eq]
                refine List.mem_of_getElem? (i := m - a - 1) ?_
                rw [List.getElem?_tail, show m - a - 1 + 1 = m - a by omega]
                exact hz⟩))
        exact h3 n h2 h1
      by_cases hl : (rs k).length = 0
      · refine j_iload c dX0_standsBehindBegin_17 rfl ?_
        refine j_aload_n c dX0_standsBehindBegin_19 rfl ?_
        refine j_getR c fl_X0_40 dX0_standsBehindBegin_20 (Nat.le_of_ble_eq_true rfl) rfl rfl ?_
        refine j_iload_n c dX0_standsBehindBegin_23 rfl ?_
        refine j_iald c dX0_standsBehindBegin_24 (Nat.le_of_ble_eq_true rfl) rfl rfl (by omega) (by decide) ?_
        rw [h63]
        refine j_icmp_ge c 52 dX0_standsBehindBegin_25 (by decide) (fun _ => ?_) (fun h_9 => absurd (nI_le (by omega) (by omega)) h_9)
        refine j_iinc c _ dX0_standsBehindBegin_52 rfl (by first | exact nI_1 _ | exact pk_m1 _ | rfl) rfl ?_
        refine j_goto c 2 dX0_standsBehindBegin_55 (by decide) ?_
        refine ih (fun j hj => ?_) _
        by_cases ej : j = k
        · subst ej; rw [List.length_eq_zero_iff.mp hl]; simp
        · exact h0 j (by omega)
      · exact inner (a + 1) (Nat.le_refl _) (by omega) (fun j h1 h2 => by omega)
  exact key 0 (Nat.zero_le _) (fun j hj => by omega) none
theorem sp_nextOfRows {σ : Sg} {rs : Nat → List Nat} {R : Nat} (hR4 : R ≤ 4) (hR : RowsX σ rs R) (hv : ∀ k d, k < R → d ∈ rs k → d < 16) : Sp yX0_nextOfRows cX0_nextOfRows 4 (some .int) 1 [.inr 1, .inl (nI R)] σ (rt σ (.inl (oI (mNx rs R)))) := by
  refine Sp.intro rfl (Nat.le_of_ble_eq_true rfl) (fun Γ c r => ?_)
  show J Γ 0 [some (.inr 1), some (.inl (nI R)), none, none] [] σ
  refine j_iconst c (nI 0) dX0_nextOfRows_0 (by decide) ?_
  refine j_istore_n c dX0_nextOfRows_1 (Nat.le_of_ble_eq_true rfl) rfl ?_
  have key : ∀ k, k ≤ R → (∀ j, j < k → nxP rs R j = false) → ∀ u : Option PV, J Γ 2 [some (.inr 1), some (.inl (nI R)), some (.inl (nI k)), u] [] σ := by
    refine loopN _ ?_ ?_
    · intro h0 u
      refine j_iload_n c dX0_nextOfRows_2 rfl ?_
      refine j_iload_n c dX0_nextOfRows_3 rfl ?_
      refine j_icmp_ge c 56 dX0_nextOfRows_4 (by decide) (fun _ => ?_) (fun h_9 => absurd (nI_le (Nat.le_refl _) (by omega)) h_9)
      refine j_iconst c (-1) dX0_nextOfRows_56 (by decide) ?_
      exact j_iret c r dX0_nextOfRows_57 rfl ⟨by unfold mNx; rw [fnd_no h0]; rfl, rfl⟩
    · intro k hk ih h0 u
      obtain ⟨a, ha, h62, h63, h61⟩ := hR k hk
      have nxt : nxP rs R k = false → ∀ u : Option PV, J Γ 50 [some (.inr 1), some (.inl (nI R)), some (.inl (nI k)), u] [] σ := by
        intro h u
        refine j_iinc c _ dX0_nextOfRows_50 rfl (by first | exact nI_1 _ | exact pk_m1 _ | rfl) rfl ?_
        refine j_goto c 2 dX0_nextOfRows_53 (by decide) ?_
        refine ih (fun j hj => ?_) _
        by_cases ej : j = k
        · subst ej; exact h
        · exact h0 j (by omega)
      refine j_iload_n c dX0_nextOfRows_2 rfl ?_
      refine j_iload_n c dX0_nextOfRows_3 rfl ?_
      refine j_icmp_ge c 56 dX0_nextOfRows_4 (by decide) (fun h_9 => absurd h_9 (nI_ge hk (by omega))) (fun _ => ?_)
      refine j_aload_n c dX0_nextOfRows_7 rfl ?_
      refine j_getR c fl_X0_37 dX0_nextOfRows_8 (Nat.le_of_ble_eq_true rfl) rfl rfl ?_
      refine j_iload_n c dX0_nextOfRows_11 rfl ?_
      refine j_iald c dX0_nextOfRows_12 (Nat.le_of_ble_eq_true rfl) rfl rfl (by omega) (by decide) ?_
      rw [h62]
      refine j_aload_n c dX0_nextOfRows_13 rfl ?_
      refine j_getR c fl_X0_40 dX0_nextOfRows_14 (Nat.le_of_ble_eq_true rfl) rfl rfl ?_
      refine j_iload_n c dX0_nextOfRows_17 rfl ?_
      refine j_iald c dX0_nextOfRows_18 (Nat.le_of_ble_eq_true rfl) rfl rfl (by omega) (by decide) ?_
      rw [h63]
      cases hr : rs k with
      | nil =>
        refine j_icmp_ge c 50 dX0_nextOfRows_19 (by decide) (fun _ => ?_) (fun h_9 => absurd (nI_le (by simp) (by simp; omega)) h_9)
        exact nxt (by unfold nxP; rw [hr]) _
      | cons z q =>
        rw [hr] at ha
        have hz2 := hv k z hk (by rw [hr]; exact List.mem_cons_self)
        have hz1 := h61 0 z (by rw [hr]; rfl)
        rw [Nat.add_zero] at hz1
        simp only [List.length_cons] at ha
        refine j_icmp_ge c 50 dX0_nextOfRows_19 (by decide) (fun h_9 => absurd h_9 (nI_ge (by simp only [List.length_cons]; omega) (by simp only [List.length_cons]; omega))) (fun _ => ?_)
        refine j_aload_n c dX0_nextOfRows_22 rfl ?_
        refine j_getR c fl_X0_34 dX0_nextOfRows_23 (Nat.le_of_ble_eq_true rfl) rfl rfl ?_
        refine j_bipush c (nI 16) dX0_nextOfRows_26 (by decide) ?_
        refine j_iload_n c dX0_nextOfRows_28 rfl ?_
        refine j_imul c _ dX0_nextOfRows_29 (by first | exact pk_mul _ _ | rfl) ?_
        refine j_aload_n c dX0_nextOfRows_30 rfl ?_
        refine j_getR c fl_X0_37 dX0_nextOfRows_31 (Nat.le_of_ble_eq_true rfl) rfl rfl ?_
        refine j_iload_n c dX0_nextOfRows_34 rfl ?_
        refine j_iald c dX0_nextOfRows_35 (Nat.le_of_ble_eq_true rfl) rfl rfl (by omega) (by decide) ?_
        rw [h62]
        refine j_iadd c _ dX0_nextOfRows_36 (by first | exact nI_add _ _ | rfl) ?_
        refine j_iald c dX0_nextOfRows_37 (by first | exact (Nat.le_of_ble_eq_true rfl) | exact hp.lt (by decide)) (by first | exact lf1 hp | exact lf2 hp | exact lf3 hp | exact lf4 hp | exact lf5 hp | exact lf6 hp | rfl) rfl (by omega) (by decide) ?_
        rw [hz1]
        refine j_istore_n c dX0_nextOfRows_38 (Nat.le_of_ble_eq_true rfl) rfl ?_
        refine j_aload_n c dX0_nextOfRows_39 rfl ?_
        refine j_iload_n c dX0_nextOfRows_40 rfl ?_
        refine j_iload_n c dX0_nextOfRows_41 rfl ?_
        refine j_callV1 c kw_X0_75 (sp_standsBehindBegin hR4 hR hv hz2) dX0_nextOfRows_42 rfl rfl (by decide) (Nat.le_of_ble_eq_true rfl) (Nat.le_of_ble_eq_true rfl) rfl rfl ?_
        refine j_if_ne c 50 dX0_nextOfRows_45 (by decide) (fun e => ?_) (fun e => ?_)
        · exact nxt (by unfold nxP; rw [hr]; show (!behB rs R z) = false; rw [bI_nz e]; rfl) _
        · refine j_iload_n c dX0_nextOfRows_48 rfl ?_
          exact j_iret c r dX0_nextOfRows_49 rfl ⟨by
            unfold mNx
            rw [fnd_hit hk (by unfold nxP; rw [hr]; show (!behB rs R z) = true; rw [bI_z e]; rfl) h0]
            show _ = some (Sum.inl (oI ((rs k).head?)))
            rw [hr]
            rfl, rfl⟩
  exact key 0 (Nat.zero_le _) (fun j hj => by omega) none
theorem sp_takeOut {σ : Sg} {rs : Nat → List Nat} {R h : Nat} (hR4 : R ≤ 4) (hR : RowsX σ rs R) (hv : ∀ k d, k < R → d ∈ rs k → d < 16) (hh : h < 16) : Sp yX0_takeOut cX0_takeOut 4 none 0 [.inr 1, .inl (nI h), .inl (nI R)] σ (fun r σ' => r = none ∧ RowsX σ' (mTk h rs) R ∧ ∀ q, q ≠ 9 → σ' q = σ q) := by
  refine Sp.intro rfl (Nat.le_of_ble_eq_true rfl) (fun Γ c r => ?_)
  show J Γ 0 [some (.inr 1), some (.inl (nI h)), some (.inl (nI R)), none] [] σ
  refine j_iconst c (nI 0) dX0_takeOut_0 (by decide) ?_
  refine j_istore_n c dX0_takeOut_1 (Nat.le_of_ble_eq_true rfl) rfl ?_
  have key : ∀ j, j ≤ R → ∀ σ2 : Sg, (∀ q, q ≠ 9 → σ2 q = σ q) → (∀ i, j ≤ i → σ2 9 i = σ 9 i) → (∀ i, i < j → ∃ a, a + (mTk h rs i).length ≤ 16 ∧ σ2 9 i = nI a ∧ σ2 10 i = nI (a + (mTk h rs i).length) ∧ ∀ q v, (mTk h rs i)[q]? = some v → σ2 8 (16 * i + (a + q)) = nI v) → J Γ 2 [some (.inr 1), some (.inl (nI h)), some (.inl (nI R)), some (.inl (nI j))] [] σ2 := by
    refine loopN _ ?_ ?_
    · intro σ2 f1 f2 f3
      refine j_iload_n c dX0_takeOut_2 rfl ?_
      refine j_iload_n c dX0_takeOut_3 rfl ?_
      refine j_icmp_ge c 58 dX0_takeOut_4 (by decide) (fun _ => ?_) (fun h_9 => absurd (nI_le (Nat.le_refl _) (by omega)) h_9)
      exact j_ret c r dX0_takeOut_58 ⟨rfl, f3, f1⟩
    · intro j hj ihj σ2 f1 f2 f3
      obtain ⟨a, ha, h62, h63, h61⟩ := hR j hj
      have s63 : σ2 10 j = nI (a + (rs j).length) := by rw [f1 10 (by decide)]; exact h63
      have s61 : ∀ i, σ2 8 i = σ 8 i := fun i => by rw [f1 8 (by decide)]
      have s62 : σ2 9 j = nI a := by rw [f2 j (Nat.le_refl _)]; exact h62
      have nxt : ∀ (b : Nat) (σ3 : Sg), (∀ q, q ≠ 9 → σ3 q = σ q) → (∀ i, i ≠ j → σ3 9 i = σ2 9 i) → σ3 9 j = nI b → (b = a ∧ mTk h rs j = rs j) ∨ (b = a + 1 ∧ ∃ q, rs j = h :: q ∧ mTk h rs j = q) → J Γ 52 [some (.inr 1), some (.inl (nI h)), some (.inl (nI R)), some (.inl (nI j))] [] σ3 := by
        intro b σ3 g1 g2 g3 hb
        refine j_iinc c _ dX0_takeOut_52 rfl (by first | exact nI_1 _ | exact pk_m1 _ | rfl) rfl ?_
        refine j_goto c 2 dX0_takeOut_55 (by decide) ?_
        refine ihj _ g1 (fun i hi => by rw [g2 i (by omega)]; exact f2 i (by omega)) (fun i hi => ?_)
        by_cases ei : i = j
        · subst ei
          rcases hb with ⟨hb1, hb2⟩ | ⟨hb1, q, hb2, hb3⟩
          · rw [hb2]
            rw [hb1] at g3
            refine ⟨a, ha, g3, by rw [g1 10 (by decide)]; exact h63, fun q v hq => by rw [g1 8 (by decide)]; exact h61 q v hq⟩
          · rw [hb3]
            rw [hb1] at g3
            rw [hb2] at ha h63
            simp only [List.length_cons] at ha h63
            refine ⟨a + 1, by omega, g3, by rw [g1 10 (by decide), h63]; congr 1; omega, fun p v hq => ?_⟩
            rw [g1 8 (by decide)]
            have := h61 (p + 1) v (by rw [hb2]; simpa using hq)
            rw [show a + 1 + p = a + (p + 1) by omega]
            exact this
        · obtain ⟨b', c1, c2, c3, c4⟩ := f3 i (by omega)
          exact ⟨b', c1, by rw [g2 i ei]; exact c2, by rw [g1 10 (by decide), ← f1 10 (by decide)]; exact c3, fun q v hq => by rw [g1 8 (by decide), ← f1 8 (by decide)]; exact c4 q v hq⟩
      refine j_iload_n c dX0_takeOut_2 rfl ?_
      refine j_iload_n c dX0_takeOut_3 rfl ?_
      refine j_icmp_ge c 58 dX0_takeOut_4 (by decide) (fun h_9 => absurd h_9 (nI_ge hj (by omega))) (fun _ => ?_)
      refine j_aload_n c dX0_takeOut_7 rfl ?_
      refine j_getR c fl_X0_37 dX0_takeOut_8 (Nat.le_of_ble_eq_true rfl) rfl rfl ?_
      refine j_iload_n c dX0_takeOut_11 rfl ?_
      refine j_iald c dX0_takeOut_12 (Nat.le_of_ble_eq_true rfl) rfl rfl (by omega) (by decide) ?_
      rw [s62]
      refine j_aload_n c dX0_takeOut_13 rfl ?_
      refine j_getR c fl_X0_40 dX0_takeOut_14 (Nat.le_of_ble_eq_true rfl) rfl rfl ?_
      refine j_iload_n c dX0_takeOut_17 rfl ?_
      refine j_iald c dX0_takeOut_18 (Nat.le_of_ble_eq_true rfl) rfl rfl (by omega) (by decide) ?_
      rw [s63]
      cases hr : rs j with
      | nil =>
        refine j_icmp_ge c 52 dX0_takeOut_19 (by decide) (fun _ => ?_) (fun h_9 => absurd (nI_le (by simp) (by simp; omega)) h_9)
        exact nxt a σ2 f1 (fun _ _ => rfl) s62 (Or.inl ⟨rfl, by unfold mTk; rw [hr]; rfl⟩)
      | cons z q =>
        have hz2 := hv j z hj (by rw [hr]; exact List.mem_cons_self)
        have hz1 := h61 0 z (by rw [hr]; rfl)
        rw [Nat.add_zero, ← s61] at hz1
        rw [hr] at ha
        simp only [List.length_cons] at ha
        refine j_icmp_ge c 52 dX0_takeOut_19 (by decide) (fun h_9 => absurd h_9 (nI_ge (by simp only [List.length_cons]; omega) (by simp only [List.length_cons]; omega))) (fun _ => ?_)
        refine j_aload_n c dX0_takeOut_22 rfl ?_
        refine j_getR c fl_X0_34 dX0_takeOut_23 (Nat.le_of_ble_eq_true rfl) rfl rfl ?_
        refine j_bipush c (nI 16) dX0_takeOut_26 (by decide) ?_
        refine j_iload_n c dX0_takeOut_28 rfl ?_
        refine j_imul c _ dX0_takeOut_29 (by first | exact pk_mul _ _ | rfl) ?_
        refine j_aload_n c dX0_takeOut_30 rfl ?_
        refine j_getR c fl_X0_37 dX0_takeOut_31 (Nat.le_of_ble_eq_true rfl) rfl rfl ?_
        refine j_iload_n c dX0_takeOut_34 rfl ?_
        refine j_iald c dX0_takeOut_35 (Nat.le_of_ble_eq_true rfl) rfl rfl (by omega) (by decide) ?_
        rw [s62]
        refine j_iadd c _ dX0_takeOut_36 (by first | exact nI_add _ _ | rfl) ?_
        refine j_iald c dX0_takeOut_37 (by first | exact (Nat.le_of_ble_eq_true rfl) | exact hp.lt (by decide)) (by first | exact lf1 hp | exact lf2 hp | exact lf3 hp | exact lf4 hp | exact lf5 hp | exact lf6 hp | rfl) rfl (by omega) (by decide) ?_
        rw [hz1]
        refine j_iload_n c dX0_takeOut_38 rfl ?_
        refine j_icmp_ne c 52 dX0_takeOut_39 (by decide) (fun w => ?_) (fun w => ?_)
        · rw [nI_eq (by omega) (by omega)] at w
          exact nxt a σ2 f1 (fun _ _ => rfl) s62 (Or.inl ⟨rfl, by unfold mTk; rw [hr]; simp [w]⟩)
        · rw [nI_eq (by omega) (by omega)] at w
          subst w
          refine j_aload_n c dX0_takeOut_42 rfl ?_
          refine j_getR c fl_X0_37 dX0_takeOut_43 (Nat.le_of_ble_eq_true rfl) rfl rfl ?_
          refine j_iload_n c dX0_takeOut_46 rfl ?_
          refine j_dup2 c dX0_takeOut_47 ?_
          refine j_iald c dX0_takeOut_48 (Nat.le_of_ble_eq_true rfl) rfl rfl (by omega) (by decide) ?_
          rw [s62]
          refine j_iconst c (nI 1) dX0_takeOut_49 (by decide) ?_
          refine j_iadd c _ dX0_takeOut_50 (by first | exact nI_add _ _ | rfl) ?_
          refine j_iast c dX0_takeOut_51 (by first | exact (Nat.le_of_ble_eq_true rfl) | exact hp.lt (by decide)) (by first | exact lf1 hp | exact lf2 hp | exact lf3 hp | exact lf4 hp | exact lf5 hp | exact lf6 hp | rfl) rfl (by omega) (by decide) ?_
          exact nxt (a + 1) _ (fun q hq => by rw [s2_np hq]; exact f1 q hq) (fun i hi => by rw [s2_nk hi]) (s2_at _ _ _ _) (Or.inr ⟨rfl, q, hr, by unfold mTk; rw [hr]; simp⟩)
  exact key 0 (Nat.zero_le _) σ (fun _ _ => rfl) (fun _ _ => rfl) (fun i hi => by omega)
theorem nx_none {rs : Nat → List Nat} {R : Nat} (h : lfB rs R = false) : mNx rs R = none := by
  have h0 := lfB_no h
  unfold mNx
  rw [fnd_no (fun k hk => by unfold nxP; rw [h0 k hk])]
  rfl
theorem full_no {rs : Nat → List Nat} {R c : Nat} {acc : List Nat} (H : mOK R c rs acc) (hl : acc.length = c + 1) : lfB rs R = false := by
  cases h : lfB rs R with
  | false => rfl
  | true =>
    obtain ⟨k, hk, h1⟩ := anyU.mp h
    cases hr : rs k with
    | nil => rw [hr] at h1; cases h1
    | cons d q =>
      have h2 := (H.2.2 k hk).2 d (by rw [hr]; exact List.mem_cons_self)
      have h3 := nodup_len (c + 1) (d :: acc) (List.nodup_cons.mpr ⟨h2.2, H.1⟩) (fun x hx => by
        rcases List.mem_cons.mp hx with rfl | h4
        · omega
        · have := H.2.1 x h4; omega)
      simp at h3
      omega
theorem sp_mergeRows {σ : Sg} {rs : Nat → List Nat} {n R : Nat} (hR4 : R ≤ 4) (hR : RowsX σ rs R) (hn : n < 16) (hO : mOK R n rs [n]) : Sp yX0_mergeRows cX0_mergeRows 5 (some .boolean) 2 [.inr 1, .inl (nI n), .inl (nI R)] σ (fun r σ' => r = some (.inl (bI (mrg R 16 rs [n]).isSome)) ∧ (∀ q, q ≠ 5 → q ≠ 6 → q ≠ 9 → σ' q = σ q) ∧ (∀ i, i < 16 * n → σ' 5 i = σ 5 i) ∧ (∀ i, i ≠ n → σ' 6 i = σ 6 i) ∧ ∀ l, mrg R 16 rs [n] = some l → σ' 6 n = nI l.length ∧ ∀ j v, l[j]? = some v → σ' 5 (16 * n + j) = nI v) := by
  refine Sp.intro rfl (Nat.le_of_ble_eq_true rfl) (fun Γ c r => ?_)
  show J Γ 0 [some (.inr 1), some (.inl (nI n)), some (.inl (nI R)), none, none] [] σ
  -- the end: what is left
  have fin : ∀ (rs1 : Nat → List Nat) (acc : List Nat) (σ1 : Sg) (u : Option PV), acc.length ≤ 16 → RowsX σ1 rs1 R → mrg R 16 rs [n] = (if lfB rs1 R then none else some acc) → (∀ q, q ≠ 5 → q ≠ 6 → q ≠ 9 → σ1 q = σ q) → (∀ i, i < 16 * n → σ1 5 i = σ 5 i) → (∀ i, i ≠ n → σ1 6 i = σ 6 i) → (∀ j v, acc[j]? = some v → σ1 5 (16 * n + j) = nI v) → J Γ 60 [some (.inr 1), some (.inl (nI n)), some (.inl (nI R)), some (.inl (nI acc.length)), u] [] σ1 := by
    intro rs1 acc σ1 u hl hR1 hm g1 g2 g3 g5
    refine j_aload_n c dX0_mergeRows_60 rfl ?_
    refine j_getR c fl_X0_28 dX0_mergeRows_61 (Nat.le_of_ble_eq_true rfl) rfl rfl ?_
    refine j_iload_n c dX0_mergeRows_64 rfl ?_
    refine j_iload_n c dX0_mergeRows_65 rfl ?_
    refine j_iast c dX0_mergeRows_66 (Nat.le_of_ble_eq_true rfl) rfl rfl (by omega) (by decide) ?_
    refine j_iconst c (nI 0) dX0_mergeRows_67 (by decide) ?_
    refine j_istore c dX0_mergeRows_68 (Nat.le_of_ble_eq_true rfl) rfl ?_
    have hR2 : RowsX (s2 σ1 6 n (nI acc.length)) rs1 R := fun k hk => by
      obtain ⟨a, c1, c2, c3, c4⟩ := hR1 k hk
      exact ⟨a, c1, by rw [s2_np (by decide)]; exact c2, by rw [s2_np (by decide)]; exact c3, fun j v h => by rw [s2_np (by decide)]; exact c4 j v h⟩
    have pst : ∀ b : Bool, b = (mrg R 16 rs [n]).isSome → (some (.inl (bI b)) : Option PV) = some (.inl (bI (mrg R 16 rs [n]).isSome)) ∧ (∀ q, q ≠ 5 → q ≠ 6 → q ≠ 9 → s2 σ1 6 n (nI acc.length) q = σ q) ∧ (∀ i, i < 16 * n → s2 σ1 6 n (nI acc.length) 5 i = σ 5 i) ∧ (∀ i, i ≠ n → s2 σ1 6 n (nI acc.length) 6 i = σ 6 i) ∧ ∀ l, mrg R 16 rs [n] = some l → s2 σ1 6 n (nI acc.length) 6 n = nI l.length ∧ ∀ j v, l[j]? = some v → s2 σ1 6 n (nI acc.length) 5 (16 * n + j) = nI v := fun b hb => by
      refine ⟨by rw [hb], fun q h1 h2 h3 => by rw [s2_np h2]; exact g1 q h1 h2 h3, fun i hi => by rw [s2_np (by decide)]; exact g2 i hi, fun i hi => by rw [s2_nk hi]; exact g3 i hi, fun l hl2 => ?_⟩
      rw [hm] at hl2
      split at hl2
      · cases hl2
      · cases hl2
        exact ⟨s2_at _ _ _ _, fun j v h => by rw [s2_np (by decide)]; exact g5 j v h⟩
    have key : ∀ k, k ≤ R → (∀ j, j < k → rs1 j = []) → J Γ 70 [some (.inr 1), some (.inl (nI n)), some (.inl (nI R)), some (.inl (nI acc.length)), some (.inl (nI k))] [] (s2 σ1 6 n (nI acc.length)) := by
      refine loopN _ ?_ ?_
      · intro h0
        refine j_iload c dX0_mergeRows_70 rfl ?_
        refine j_iload_n c dX0_mergeRows_72 rfl ?_
        refine j_icmp_ge c 101 dX0_mergeRows_73 (by decide) (fun _ => ?_) (fun h_9 => absurd (nI_le (Nat.le_refl _) (by omega)) h_9)
        refine j_iconst c (nI 1) dX0_mergeRows_101 (by decide) ?_
        have hlf : lfB rs1 R = false := by
          cases h : lfB rs1 R with
          | false => rfl
          | true =>
            obtain ⟨k, hk, h1⟩ := anyU.mp h
            rw [h0 k hk] at h1
            cases h1
        exact j_iret c r dX0_mergeRows_102 rfl (pst true (by rw [hm, hlf]; rfl))
      · intro k hk ih h0
        obtain ⟨a, ha, h62, h63, h61⟩ := hR2 k hk
        refine j_iload c dX0_mergeRows_70 rfl ?_
        refine j_iload_n c dX0_mergeRows_72 rfl ?_
        refine j_icmp_ge c 101 dX0_mergeRows_73 (by decide) (fun h_9 => absurd h_9 (nI_ge hk (by omega))) (fun _ => ?_)
        refine j_aload_n c dX0_mergeRows_76 rfl ?_
        refine j_getR c fl_X0_37 dX0_mergeRows_77 (Nat.le_of_ble_eq_true rfl) rfl rfl ?_
        refine j_iload c dX0_mergeRows_80 rfl ?_
        refine j_iald c dX0_mergeRows_82 (Nat.le_of_ble_eq_true rfl) rfl rfl (by omega) (by decide) ?_
        rw [h62]
        refine j_aload_n c dX0_mergeRows_83 rfl ?_
        refine j_getR c fl_X0_40 dX0_mergeRows_84 (Nat.le_of_ble_eq_true rfl) rfl rfl ?_
        refine j_iload c dX0_mergeRows_87 rfl ?_
        refine j_iald c dX0_mergeRows_89 (Nat.le_of_ble_eq_true rfl) rfl rfl (by omega) (by decide) ?_
        rw [h63]
        by_cases hl0 : (rs1 k).length = 0
        · refine j_icmp_ge c 95 dX0_mergeRows_90 (by decide) (fun _ => ?_) (fun h_9 => absurd (nI_le (by omega) (by omega)) h_9)
          refine j_iinc c _ dX0_mergeRows_95 rfl (by first | exact nI_1 _ | exact pk_m1 _ | rfl) rfl ?_
          refine j_goto c 70 dX0_mergeRows_98 (by decide) ?_
          refine ih (fun j hj => ?_)
          by_cases ej : j = k
          · subst ej; exact List.length_eq_zero_iff.mp hl0
          · exact h0 j (by omega)
        · refine j_icmp_ge c 95 dX0_mergeRows_90 (by decide) (fun h_9 => absurd h_9 (nI_ge (by omega) (by omega))) (fun _ => ?_)
          refine j_iconst c (nI 0) dX0_mergeRows_93 (by decide) ?_
          have hlf : lfB rs1 R = true := anyU.mpr ⟨k, hk, by
            cases hr : rs1 k with
            | nil => rw [hr] at hl0; simp at hl0
            | cons z q => rfl⟩
          exact j_iret c r dX0_mergeRows_94 rfl (pst false (by rw [hm, hlf]; rfl))
    exact key 0 (Nat.zero_le _) (fun j hj => by omega)
  have loop : ∀ k (rs1 : Nat → List Nat) (acc : List Nat) (σ1 : Sg) (u : Option PV), acc.length + k = 17 → mOK R n rs1 acc → RowsX σ1 rs1 R → mrg R 16 rs [n] = mrg R k rs1 acc → (∀ q, q ≠ 5 → q ≠ 6 → q ≠ 9 → σ1 q = σ q) → (∀ i, i < 16 * n → σ1 5 i = σ 5 i) → (∀ i, i ≠ n → σ1 6 i = σ 6 i) → (∀ j v, acc[j]? = some v → σ1 5 (16 * n + j) = nI v) → J Γ 12 [some (.inr 1), some (.inl (nI n)), some (.inl (nI R)), some (.inl (nI acc.length)), u] [] σ1 := by
    intro k
    induction k with
    | zero =>
      intro rs1 acc σ1 u h1 h2
      have := h2.len
      omega
    | succ k ih =>
      intro rs1 acc σ1 u h1 h2 hR1 hm g1 g2 g3 g5
      have hlen := h2.len
      have hv : ∀ k d, k < R → d ∈ rs1 k → d < 16 := fun k d hk hd => by have := ((h2.2.2 k hk).2 d hd).1; omega
      have hunf : mrg R (k + 1) rs1 acc = if lfB rs1 R then (match mNx rs1 R with | none => none | some h => mrg R k (mTk h rs1) (acc ++ [h])) else some acc := rfl
      refine j_iload_n c dX0_mergeRows_12 rfl ?_
      refine j_bipush c (nI 16) dX0_mergeRows_13 (by decide) ?_
      by_cases hf : acc.length = 16
      · have hlf := full_no h2 (by omega)
        rw [hf]
        refine j_icmp_ge c 60 dX0_mergeRows_15 (by decide) (fun _ => ?_) (fun h_9 => absurd (nI_le (Nat.le_refl _) (by decide)) h_9)
        have := fin rs1 acc σ1 u (by omega) hR1 (by rw [hm, hunf, hlf]; rfl) g1 g2 g3 g5
        rw [hf] at this
        exact this
      · refine j_icmp_ge c 60 dX0_mergeRows_15 (by decide) (fun h_9 => absurd h_9 (nI_ge (by omega) (by decide))) (fun _ => ?_)
        refine j_aload_n c dX0_mergeRows_18 rfl ?_
        refine j_iload_n c dX0_mergeRows_19 rfl ?_
        refine j_callV1 c kw_X0_68 (sp_nextOfRows hR4 hR1 hv) dX0_mergeRows_20 rfl rfl (by decide) (Nat.le_of_ble_eq_true rfl) (Nat.le_of_ble_eq_true rfl) rfl rfl ?_
        cases hx : mNx rs1 R with
        | none =>
          refine j_istore c dX0_mergeRows_23 (Nat.le_of_ble_eq_true rfl) rfl ?_
          refine j_iload c dX0_mergeRows_25 rfl ?_
          refine j_iconst c (-1) dX0_mergeRows_27 (by decide) ?_
          refine j_icmp_ne c 34 dX0_mergeRows_28 (by decide) (fun h_9 => absurd (by rfl) h_9) (fun _ => ?_)
          refine j_goto c 60 dX0_mergeRows_31 (by decide) ?_
          refine fin rs1 acc σ1 _ (by omega) hR1 ?_ g1 g2 g3 g5
          rw [hm, hunf, hx]
        | some h =>
          have hlf : lfB rs1 R = true := by
            cases hh : lfB rs1 R with
            | true => rfl
            | false => rw [nx_none hh] at hx; cases hx
          rw [hlf, hx] at hunf
          have hm2 : mrg R 16 rs [n] = mrg R k (mTk h rs1) (acc ++ [h]) := by rw [hm, hunf]; rfl
          have hst := h2.step hx
          have hl2 := hst.1.len
          have hl3 : (acc ++ [h]).length = acc.length + 1 := by simp
          refine j_istore c dX0_mergeRows_23 (Nat.le_of_ble_eq_true rfl) rfl ?_
          refine j_iload c dX0_mergeRows_25 rfl ?_
          refine j_iconst c (-1) dX0_mergeRows_27 (by decide) ?_
          refine j_icmp_ne c 34 dX0_mergeRows_28 (by decide) (fun _ => ?_) (fun h_9 => absurd h_9 (oI_ne (t := h) (by omega)))
          refine j_aload_n c dX0_mergeRows_34 rfl ?_
          refine j_iload c dX0_mergeRows_35 rfl ?_
          refine j_iload_n c dX0_mergeRows_37 rfl ?_
          refine j_callV c kw_X0_72 (sp_takeOut (h := h) hR4 hR1 hv (by omega)) dX0_mergeRows_38 rfl rfl (by decide) (Nat.le_of_ble_eq_true rfl) (Nat.le_of_ble_eq_true rfl) rfl rfl ?_
          rintro _ σ2 ⟨rfl, t1, t2⟩
          refine j_aload_n c dX0_mergeRows_41 rfl ?_
          refine j_getR c fl_X0_25 dX0_mergeRows_42 (Nat.le_of_ble_eq_true rfl) rfl rfl ?_
          refine j_bipush c (nI 16) dX0_mergeRows_45 (by decide) ?_
          refine j_iload_n c dX0_mergeRows_47 rfl ?_
          refine j_imul c _ dX0_mergeRows_48 (by first | exact pk_mul _ _ | rfl) ?_
          refine j_iload_n c dX0_mergeRows_49 rfl ?_
          refine j_iadd c _ dX0_mergeRows_50 (by first | exact nI_add _ _ | rfl) ?_
          refine j_iload c dX0_mergeRows_51 rfl ?_
          refine j_iast c dX0_mergeRows_53 (Nat.le_of_ble_eq_true rfl) rfl rfl (by omega) (by decide) ?_
          refine j_iinc c _ dX0_mergeRows_54 rfl (by first | exact nI_1 _ | exact pk_m1 _ | rfl) rfl ?_
          refine j_goto c 12 dX0_mergeRows_57 (by decide) ?_
          have ih2 := ih (mTk h rs1) (acc ++ [h]) (s2 σ2 5 (16 * n + acc.length) (nI h)) (some (.inl (nI h))) (by omega) hst.1 (fun k hk => by
            obtain ⟨a, c1, c2, c3, c4⟩ := t1 k hk
            exact ⟨a, c1, by rw [s2_np (by decide)]; exact c2, by rw [s2_np (by decide)]; exact c3, fun j v h => by rw [s2_np (by decide)]; exact c4 j v h⟩) hm2 (fun q q1 q2 q3 => by rw [s2_np q1, t2 q q3]; exact g1 q q1 q2 q3) (fun i hi => by rw [s2_nk (by omega), t2 5 (by decide)]; exact g2 i hi) (fun i hi => by rw [s2_np (by decide), t2 6 (by decide)]; exact g3 i hi) (fun j v hj => by
            by_cases ej : j = acc.length
            · subst ej
              rw [List.getElem?_append_right (Nat.le_refl _), Nat.sub_self] at hj
              cases hj
              exact s2_at _ _ _ _
            · rw [s2_nk (by omega), t2 5 (by decide)]
              have : j < acc.length := by
                have := (List.getElem?_eq_some_iff.mp hj).1
                omega
              rw [List.getElem?_append_left this] at hj
              exact g5 j v hj)
          rw [hl3] at ih2
          exact ih2
  refine j_iconst c (nI 1) dX0_mergeRows_0 (by decide) ?_
  refine j_istore_n c dX0_mergeRows_1 (Nat.le_of_ble_eq_true rfl) rfl ?_
  refine j_aload_n c dX0_mergeRows_2 rfl ?_
  refine j_getR c fl_X0_25 dX0_mergeRows_3 (Nat.le_of_ble_eq_true rfl) rfl rfl ?_
  refine j_bipush c (nI 16) dX0_mergeRows_6 (by decide) ?_
  refine j_iload_n c dX0_mergeRows_8 rfl ?_
  refine j_imul c _ dX0_mergeRows_9 (by first | exact pk_mul _ _ | rfl) ?_
  refine j_iload_n c dX0_mergeRows_10 rfl ?_
  refine j_iast c dX0_mergeRows_11 (Nat.le_of_ble_eq_true rfl) rfl rfl (by omega) (by decide) ?_
  refine loop 16 rs [n] _ _ (by simp) hO (fun k hk => ?_) rfl (fun q q1 _ _ => by rw [s2_np q1]) (fun i hi => by rw [s2_nk (by omega)]) (fun i hi => by rw [s2_np (by decide)]) (fun j v hj => ?_)
  · obtain ⟨a, c1, c2, c3, c4⟩ := hR k hk
    exact ⟨a, c1, by rw [s2_np (by decide)]; exact c2, by rw [s2_np (by decide)]; exact c3, fun j v h => by rw [s2_np (by decide)]; exact c4 j v h⟩
  · have : j = 0 := by
      have := (List.getElem?_eq_some_iff.mp hj).1
      simp at this
      exact this
    subst this
    cases hj
    exact s2_at _ _ _ _
theorem sp_layRows {T : TS} {σ : Sg} (hW : WF T) (h5 : ∀ c, c < tn T → ∀ k d, (tls T c)[k]? = some d → σ 5 (16 * c + k) = nI d) (h6 : ∀ c, c < tn T → σ 6 c = nI (tls T c).length) {P : List Nat} (hn : tn T < 16) (h1 : 1 ≤ P.length) (h3 : P.length ≤ 3) (hP : ∀ x, x ∈ P → x < tn T) (h2 : ∀ i x, P[i]? = some x → σ 2 (3 * tn T + i) = nI x) : Sp yX0_layRows cX0_layRows 5 none 1 [.inr 1, .inl (nI (tn T)), .inl (nI P.length)] σ (fun r σ' => r = none ∧ RowsX σ' (rwX (tls T) P) (P.length + 1) ∧ ∀ q, q ≠ 8 → q ≠ 9 → q ≠ 10 → σ' q = σ q) := by
  refine Sp.intro rfl (Nat.le_of_ble_eq_true rfl) (fun Γ c r => ?_)
  show J Γ 0 [some (.inr 1), some (.inl (nI (tn T))), some (.inl (nI P.length)), none, none] [] σ
  refine j_iconst c (nI 0) dX0_layRows_0 (by decide) ?_
  refine j_istore_n c dX0_layRows_1 (Nat.le_of_ble_eq_true rfl) rfl ?_
  have key : ∀ k, k ≤ P.length → ∀ (u : Option PV) (σ1 : Sg), (∀ q, q ≠ 8 → q ≠ 9 → q ≠ 10 → σ1 q = σ q) → (∀ i x, i < k → P[i]? = some x → σ1 9 i = nI 0 ∧ σ1 10 i = nI (tls T x).length ∧ ∀ j v, (tls T x)[j]? = some v → σ1 8 (16 * i + j) = nI v) → (∀ i x, i < k → P[i]? = some x → σ1 8 (16 * P.length + i) = nI x) → J Γ 2 [some (.inr 1), some (.inl (nI (tn T))), some (.inl (nI P.length)), some (.inl (nI k)), u] [] σ1 := by
    refine loopN _ ?_ ?_
    · intro u σ1 f1 f2 f3
      refine j_iload_n c dX0_layRows_2 rfl ?_
      refine j_iload_n c dX0_layRows_3 rfl ?_
      refine j_icmp_ge c 85 dX0_layRows_4 (by decide) (fun _ => ?_) (fun h_9 => absurd (nI_le (Nat.le_refl _) (by omega)) h_9)
      refine j_aload_n c dX0_layRows_85 rfl ?_
      refine j_getR c fl_X0_37 dX0_layRows_86 (Nat.le_of_ble_eq_true rfl) rfl rfl ?_
      refine j_iload_n c dX0_layRows_89 rfl ?_
      refine j_iconst c (nI 0) dX0_layRows_90 (by decide) ?_
      refine j_iast c dX0_layRows_91 (Nat.le_of_ble_eq_true rfl) rfl rfl (by omega) (by decide) ?_
      refine j_aload_n c dX0_layRows_92 rfl ?_
      refine j_getR c fl_X0_40 dX0_layRows_93 (Nat.le_of_ble_eq_true rfl) rfl rfl ?_
      refine j_iload_n c dX0_layRows_96 rfl ?_
      refine j_iload_n c dX0_layRows_97 rfl ?_
      refine j_iast c dX0_layRows_98 (Nat.le_of_ble_eq_true rfl) rfl rfl (by omega) (by decide) ?_
      refine j_ret c r dX0_layRows_99 ⟨rfl, fun k hk => ?_, fun q q1 q2 q3 => by rw [s2_np q3, s2_np q2]; exact f1 q q1 q2 q3⟩
      unfold rwX
      by_cases e : k < P.length
      · obtain ⟨x, hx⟩ : ∃ x, P[k]? = some x := ⟨_, List.getElem?_eq_getElem e⟩
        have hxn := hP x (List.mem_of_getElem? hx)
        have hl := hW.len hxn
        obtain ⟨c1, c2, c3⟩ := f2 k x e hx
        rw [if_pos e, show P.getD k 0 = x by simp [hx]]
        refine ⟨0, by omega, by rw [s2_np (by decide), s2_nk (by omega)]; exact c1, by rw [s2_nk (by omega), s2_np (by decide), Nat.zero_add]; exact c2, fun j v h => by rw [s2_np (by decide), s2_np (by decide), Nat.zero_add]; exact c3 j v h⟩
      · have ek : k = P.length := by omega
        subst ek
        rw [if_neg e, if_pos rfl]
        refine ⟨0, by omega, by rw [s2_np (by decide), s2_at], by rw [s2_at, Nat.zero_add], fun j v h => ?_⟩
        rw [s2_np (by decide), s2_np (by decide), Nat.zero_add]
        exact f3 j v (List.getElem?_eq_some_iff.mp h).1 h
    · intro k hk ih u σ1 f1 f2 f3
      obtain ⟨x, hx⟩ : ∃ x, P[k]? = some x := ⟨_, List.getElem?_eq_getElem hk⟩
      have hxn := hP x (List.mem_of_getElem? hx)
      have hl := hW.len hxn
      refine j_iload_n c dX0_layRows_2 rfl ?_
      refine j_iload_n c dX0_layRows_3 rfl ?_
      refine j_icmp_ge c 85 dX0_layRows_4 (by decide) (fun h_9 => absurd h_9 (nI_ge hk (by omega))) (fun _ => ?_)
      refine j_aload_n c dX0_layRows_7 rfl ?_
      refine j_getR c fl_X0_15 dX0_layRows_8 (Nat.le_of_ble_eq_true rfl) rfl rfl ?_
      refine j_iconst c (nI 3) dX0_layRows_11 (by decide) ?_
      refine j_iload_n c dX0_layRows_12 rfl ?_
      refine j_imul c _ dX0_layRows_13 (by first | exact pk_mul _ _ | rfl) ?_
      refine j_iload_n c dX0_layRows_14 rfl ?_
      refine j_iadd c _ dX0_layRows_15 (by first | exact nI_add _ _ | rfl) ?_
      refine j_iald c dX0_layRows_16 (Nat.le_of_ble_eq_true rfl) rfl rfl (by omega) (by decide) ?_
      rw [f1 2 (by decide) (by decide) (by decide), h2 k x hx]
      refine j_istore c dX0_layRows_17 (Nat.le_of_ble_eq_true rfl) rfl ?_
      refine j_aload_n c dX0_layRows_19 rfl ?_
      refine j_getR c fl_X0_25 dX0_layRows_20 (Nat.le_of_ble_eq_true rfl) rfl rfl ?_
      refine j_bipush c (nI 16) dX0_layRows_23 (by decide) ?_
      refine j_iload c dX0_layRows_25 rfl ?_
      refine j_imul c _ dX0_layRows_27 (by first | exact pk_mul _ _ | rfl) ?_
      refine j_aload_n c dX0_layRows_28 rfl ?_
      refine j_getR c fl_X0_34 dX0_layRows_29 (Nat.le_of_ble_eq_true rfl) rfl rfl ?_
      refine j_bipush c (nI 16) dX0_layRows_32 (by decide) ?_
      refine j_iload_n c dX0_layRows_34 rfl ?_
      refine j_imul c _ dX0_layRows_35 (by first | exact pk_mul _ _ | rfl) ?_
      refine j_aload_n c dX0_layRows_36 rfl ?_
      refine j_getR c fl_X0_28 dX0_layRows_37 (Nat.le_of_ble_eq_true rfl) rfl rfl ?_
      refine j_iload c dX0_layRows_40 rfl ?_
      refine j_iald c dX0_layRows_42 (Nat.le_of_ble_eq_true rfl) rfl rfl (by omega) (by decide) ?_
      rw [f1 6 (by decide) (by decide) (by decide), h6 x hxn]
      refine j_copy c cp_X0_62 cp_nat cp_stat cp_init dX0_layRows_43 (Nat.le_of_ble_eq_true rfl) (Nat.le_of_ble_eq_true rfl) rfl rfl rfl rfl rfl (by omega) (by omega) (by decide) (by decide) (Nat.le_of_ble_eq_true rfl) (by decide) ?_
      refine j_aload_n c dX0_layRows_46 rfl ?_
      refine j_getR c fl_X0_37 dX0_layRows_47 (Nat.le_of_ble_eq_true rfl) rfl rfl ?_
      refine j_iload_n c dX0_layRows_50 rfl ?_
      refine j_iconst c (nI 0) dX0_layRows_51 (by decide) ?_
      refine j_iast c dX0_layRows_52 (Nat.le_of_ble_eq_true rfl) rfl rfl (by omega) (by decide) ?_
      refine j_aload_n c dX0_layRows_53 rfl ?_
      refine j_getR c fl_X0_40 dX0_layRows_54 (Nat.le_of_ble_eq_true rfl) rfl rfl ?_
      refine j_iload_n c dX0_layRows_57 rfl ?_
      refine j_aload_n c dX0_layRows_58 rfl ?_
      refine j_getR c fl_X0_28 dX0_layRows_59 (Nat.le_of_ble_eq_true rfl) rfl rfl ?_
      refine j_iload c dX0_layRows_62 rfl ?_
      refine j_iald c dX0_layRows_64 (Nat.le_of_ble_eq_true rfl) rfl rfl (by omega) (by decide) ?_
      rw [s2_np (by decide), sR_ne (by decide), f1 6 (by decide) (by decide) (by decide), h6 x hxn]
      refine j_iast c dX0_layRows_65 (by first | exact (Nat.le_of_ble_eq_true rfl) | exact hp.lt (by decide)) (by first | exact lf1 hp | exact lf2 hp | exact lf3 hp | exact lf4 hp | exact lf5 hp | exact lf6 hp | rfl) rfl (by omega) (by decide) ?_
      refine j_aload_n c dX0_layRows_66 rfl ?_
      refine j_getR c fl_X0_34 dX0_layRows_67 (Nat.le_of_ble_eq_true rfl) rfl rfl ?_
      refine j_bipush c (nI 16) dX0_layRows_70 (by decide) ?_
      refine j_iload_n c dX0_layRows_72 rfl ?_
      refine j_imul c _ dX0_layRows_73 (by first | exact pk_mul _ _ | rfl) ?_
      refine j_iload_n c dX0_layRows_74 rfl ?_
      refine j_iadd c _ dX0_layRows_75 (by first | exact nI_add _ _ | rfl) ?_
      refine j_iload c dX0_layRows_76 rfl ?_
      refine j_iast c dX0_layRows_78 (Nat.le_of_ble_eq_true rfl) rfl rfl (by omega) (by decide) ?_
      refine j_iinc c _ dX0_layRows_79 rfl (by first | exact nI_1 _ | exact pk_m1 _ | rfl) rfl ?_
      refine j_goto c 2 dX0_layRows_82 (by decide) ?_
      have e8 : ∀ i, ¬ (16 * k ≤ i ∧ i < 16 * k + (tls T x).length) → va_cpy (σ1 5) (σ1 8) (16 * x) (16 * k) (tls T x).length i = σ1 8 i := fun i hi => pk_cpy_out (by omega)
      refine ih _ _ (fun q q1 q2 q3 => by rw [s2_np q1, s2_np q3, s2_np q2, sR_ne q1]; exact f1 q q1 q2 q3) (fun i y hi hy => ?_) (fun i y hi hy => ?_)
      · by_cases ei : i = k
        · subst ei
          rw [hx] at hy
          cases hy
          refine ⟨by rw [s2_np (by decide), s2_np (by decide), s2_at], by rw [s2_np (by decide), s2_at], fun j v hj => ?_⟩
          have hjl := (List.getElem?_eq_some_iff.mp hj).1
          rw [s2_nk (by omega), s2_np (by decide), s2_np (by decide), sR_at, pk_cpy_in (by omega) (by omega), show 16 * x + (16 * i + j - 16 * i) = 16 * x + j by omega, f1 5 (by decide) (by decide) (by decide)]
          exact h5 x hxn j v hj
        · obtain ⟨c1, c2, c3⟩ := f2 i y (by omega) hy
          have hyn := hP y (List.mem_of_getElem? hy)
          have hly := hW.len hyn
          refine ⟨by rw [s2_np (by decide), s2_np (by decide), s2_nk ei, sR_ne (by decide)]; exact c1, by rw [s2_np (by decide), s2_nk ei, s2_np (by decide), sR_ne (by decide)]; exact c2, fun j v hj => ?_⟩
          have hjl := (List.getElem?_eq_some_iff.mp hj).1
          rw [s2_nk (by omega), s2_np (by decide), s2_np (by decide), sR_at, e8 _ (by omega)]
          exact c3 j v hj
      · by_cases ei : i = k
        · subst ei
          rw [hx] at hy
          cases hy
          rw [s2_at]
        · rw [s2_nk (by omega), s2_np (by decide), s2_np (by decide), sR_at, e8 _ (by omega)]
          exact f3 i y (by omega) hy
  exact key 0 (Nat.zero_le _) none σ (fun _ _ _ _ => rfl) (fun i x hi => by omega) (fun i x hi => by omega)
