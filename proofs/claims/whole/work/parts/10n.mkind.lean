-- ===== 10n: the reference's classes: rows, merging, kind =====
theorem sp_laysRow {T : TS} {σ : Sg} (hW : WF T) (h52 : ∀ c, c < tn T → ∀ k d, (tls T c)[k]? = some d → σ 52 (16 * c + k) = nI d) (h53 : ∀ c, c < tn T → σ 53 c = nI (tls T c).length) {k : Nat} (hk : k < 3) (o : Option Nat) (ho : ∀ t, o = some t → t < tn T) : Sp yX3_laysRow cX3_laysRow 4 none 0 [.inr 50, .inl (nI k), .inl (oI o)] σ (fun r σ' => r = none ∧ (∀ q, q ≠ 61 → q ≠ 62 → q ≠ 63 → σ' q = σ q) ∧ (∀ j, j ≠ k → σ' 62 j = σ 62 j ∧ σ' 63 j = σ 63 j) ∧ (∀ i, i < 16 * k ∨ 16 * k + 16 ≤ i → σ' 61 i = σ 61 i) ∧ σ' 62 k = nI 0 ∧ σ' 63 k = nI ((o.map (tls T)).getD []).length ∧ ∀ j v, ((o.map (tls T)).getD [])[j]? = some v → σ' 61 (16 * k + j) = nI v) := by
  have hn := hW.1
  refine Sp.intro rfl (Nat.le_of_ble_eq_true rfl) (fun Γ c r => ?_)
  show J Γ 0 [some (.inr 50), some (.inl (nI k)), some (.inl (oI o)), none] [] σ
  refine j_aload_n c dX3_laysRow_0 rfl ?_
  refine j_getR c fl_X3_43 dX3_laysRow_1 (Nat.le_of_ble_eq_true rfl) rfl rfl ?_
  refine j_iload_n c dX3_laysRow_4 rfl ?_
  refine j_iconst c (nI 0) dX3_laysRow_5 (by decide) ?_
  refine j_iast c dX3_laysRow_6 (Nat.le_of_ble_eq_true rfl) rfl rfl (by omega) (by decide) ?_
  refine j_aload_n c dX3_laysRow_7 rfl ?_
  refine j_getR c fl_X3_46 dX3_laysRow_8 (Nat.le_of_ble_eq_true rfl) rfl rfl ?_
  refine j_iload_n c dX3_laysRow_11 rfl ?_
  refine j_iconst c (nI 0) dX3_laysRow_12 (by decide) ?_
  refine j_iast c dX3_laysRow_13 (Nat.le_of_ble_eq_true rfl) rfl rfl (by omega) (by decide) ?_
  refine j_iconst c (nI 0) dX3_laysRow_14 (by decide) ?_
  refine j_istore_n c dX3_laysRow_15 (Nat.le_of_ble_eq_true rfl) rfl ?_
  cases o with
  | none =>
    refine j_iload_n c dX3_laysRow_16 rfl ?_
    refine j_iconst c (-1) dX3_laysRow_17 (by decide) ?_
    refine j_icmp_eq c 69 dX3_laysRow_18 (by decide) (fun _ => ?_) (fun h_9 => absurd (by rfl) h_9)
    exact j_ret c r dX3_laysRow_69 ⟨rfl, fun q h1 h2 h3 => by rw [s2_np h3, s2_np h2], fun j hj => ⟨by rw [s2_np (by decide), s2_nk hj], by rw [s2_nk hj, s2_np (by decide)]⟩, fun i hi => by rw [s2_np (by decide), s2_np (by decide)], by rw [s2_np (by decide), s2_at], by rw [s2_at]; rfl, fun j v h => by simp at h⟩
  | some t =>
    have ht := ho t rfl
    have hl := hW.len ht
    have key : ∀ n, n ≤ (tls T t).length → ∀ σ1 : Sg, (∀ q, q ≠ 61 → q ≠ 62 → q ≠ 63 → σ1 q = σ q) → (∀ j, j ≠ k → σ1 62 j = σ 62 j ∧ σ1 63 j = σ 63 j) → (∀ i, i < 16 * k ∨ 16 * k + 16 ≤ i → σ1 61 i = σ 61 i) → σ1 62 k = nI 0 → σ1 63 k = nI n → (∀ j v, j < n → (tls T t)[j]? = some v → σ1 61 (16 * k + j) = nI v) → J Γ 16 [some (.inr 50), some (.inl (nI k)), some (.inl (oI (some t))), some (.inl (nI n))] [] σ1 := by
      refine loopN _ ?_ ?_
      · intro σ1 g1 g2 g3 g4 g5 g6
        refine j_iload_n c dX3_laysRow_16 rfl ?_
        refine j_iconst c (-1) dX3_laysRow_17 (by decide) ?_
        refine j_icmp_eq c 69 dX3_laysRow_18 (by decide) (fun h_9 => absurd h_9 (oI_ne (t := t) (by omega))) (fun _ => ?_)
        refine j_iload_n c dX3_laysRow_21 rfl ?_
        refine j_aload_n c dX3_laysRow_22 rfl ?_
        refine j_getR c fl_X3_16 dX3_laysRow_23 (Nat.le_of_ble_eq_true rfl) rfl rfl ?_
        refine j_iload_n c dX3_laysRow_26 rfl ?_
        refine j_iald c dX3_laysRow_27 (Nat.le_of_ble_eq_true rfl) rfl (k := t) rfl (by omega) (by decide) ?_
        rw [g1 53 (by decide) (by decide) (by decide), h53 t ht]
        refine j_icmp_ge c 69 dX3_laysRow_28 (by decide) (fun _ => ?_) (fun h_9 => absurd (nI_le (Nat.le_refl _) (by omega)) h_9)
        exact j_ret c r dX3_laysRow_69 ⟨rfl, g1, g2, g3, g4, g5, fun j v h => g6 j v (List.getElem?_eq_some_iff.mp h).1 h⟩
      · intro n hnl ih σ1 g1 g2 g3 g4 g5 g6
        obtain ⟨z, hz⟩ : ∃ z, (tls T t)[n]? = some z := ⟨_, List.getElem?_eq_getElem hnl⟩
        refine j_iload_n c dX3_laysRow_16 rfl ?_
        refine j_iconst c (-1) dX3_laysRow_17 (by decide) ?_
        refine j_icmp_eq c 69 dX3_laysRow_18 (by decide) (fun h_9 => absurd h_9 (oI_ne (t := t) (by omega))) (fun _ => ?_)
        refine j_iload_n c dX3_laysRow_21 rfl ?_
        refine j_aload_n c dX3_laysRow_22 rfl ?_
        refine j_getR c fl_X3_16 dX3_laysRow_23 (Nat.le_of_ble_eq_true rfl) rfl rfl ?_
        refine j_iload_n c dX3_laysRow_26 rfl ?_
        refine j_iald c dX3_laysRow_27 (Nat.le_of_ble_eq_true rfl) rfl (k := t) rfl (by omega) (by decide) ?_
        rw [g1 53 (by decide) (by decide) (by decide), h53 t ht]
        refine j_icmp_ge c 69 dX3_laysRow_28 (by decide) (fun h_9 => absurd h_9 (nI_ge hnl (by omega))) (fun _ => ?_)
        refine j_aload_n c dX3_laysRow_31 rfl ?_
        refine j_getR c fl_X3_40 dX3_laysRow_32 (Nat.le_of_ble_eq_true rfl) rfl rfl ?_
        refine j_bipush c (nI 16) dX3_laysRow_35 (by decide) ?_
        refine j_iload_n c dX3_laysRow_37 rfl ?_
        refine j_imul c _ dX3_laysRow_38 (by first | exact pk_mul _ _ | rfl) ?_
        refine j_iload_n c dX3_laysRow_39 rfl ?_
        refine j_iadd c _ dX3_laysRow_40 (by first | exact nI_add _ _ | rfl) ?_
        refine j_aload_n c dX3_laysRow_41 rfl ?_
        refine j_getR c fl_X3_13 dX3_laysRow_42 (Nat.le_of_ble_eq_true rfl) rfl rfl ?_
        refine j_bipush c (nI 16) dX3_laysRow_45 (by decide) ?_
        refine j_iload_n c dX3_laysRow_47 rfl ?_
        refine j_imul c (nI (16 * t)) dX3_laysRow_48 (pk_mul 16 t) ?_
        refine j_iload_n c dX3_laysRow_49 rfl ?_
        refine j_iadd c _ dX3_laysRow_50 (by first | exact nI_add _ _ | rfl) ?_
        refine j_iald c dX3_laysRow_51 (Nat.le_of_ble_eq_true rfl) rfl rfl (by omega) (by decide) ?_
        rw [g1 52 (by decide) (by decide) (by decide), h52 t ht n z hz]
        refine j_iast c dX3_laysRow_52 (by first | exact (Nat.le_of_ble_eq_true rfl) | exact hp.lt (by decide)) (by first | exact lf1 hp | exact lf2 hp | exact lf3 hp | exact lf4 hp | exact lf5 hp | exact lf6 hp | rfl) rfl (by omega) (by decide) ?_
        refine j_aload_n c dX3_laysRow_53 rfl ?_
        refine j_getR c fl_X3_46 dX3_laysRow_54 (Nat.le_of_ble_eq_true rfl) rfl rfl ?_
        refine j_iload_n c dX3_laysRow_57 rfl ?_
        refine j_dup2 c dX3_laysRow_58 ?_
        refine j_iald c dX3_laysRow_59 (Nat.le_of_ble_eq_true rfl) rfl rfl (by omega) (by decide) ?_
        rw [s2_np (by decide), g5]
        refine j_iconst c (nI 1) dX3_laysRow_60 (by decide) ?_
        refine j_iadd c _ dX3_laysRow_61 (by first | exact nI_add _ _ | rfl) ?_
        refine j_iast c dX3_laysRow_62 (by first | exact (Nat.le_of_ble_eq_true rfl) | exact hp.lt (by decide)) (by first | exact lf1 hp | exact lf2 hp | exact lf3 hp | exact lf4 hp | exact lf5 hp | exact lf6 hp | rfl) rfl (by omega) (by decide) ?_
        refine j_iinc c _ dX3_laysRow_63 rfl (by first | exact nI_1 _ | exact pk_m1 _ | rfl) rfl ?_
        refine j_goto c 16 dX3_laysRow_66 (by decide) ?_
        refine ih _ (fun q h1 h2 h3 => by rw [s2_np h3, s2_np h1]; exact g1 q h1 h2 h3) (fun j hj => ⟨by rw [s2_np (by decide), s2_np (by decide)]; exact (g2 j hj).1, by rw [s2_nk hj, s2_np (by decide)]; exact (g2 j hj).2⟩) (fun i hi => by rw [s2_np (by decide), s2_nk (by omega)]; exact g3 i hi) (by rw [s2_np (by decide), s2_np (by decide)]; exact g4) (by rw [s2_at]) (fun j v hj h => ?_)
        rw [s2_np (by decide)]
        by_cases ej : j = n
        · subst ej; rw [s2_at]; rw [hz] at h; cases h; rfl
        · rw [s2_nk (by omega)]; exact g6 j v (by omega) h
    exact key 0 (Nat.zero_le _) _ (fun q h1 h2 h3 => by rw [s2_np h3, s2_np h2]) (fun j hj => ⟨by rw [s2_np (by decide), s2_nk hj], by rw [s2_nk hj, s2_np (by decide)]⟩) (fun i hi => by rw [s2_np (by decide), s2_np (by decide)]) (by rw [s2_np (by decide), s2_at]) (by rw [s2_at]) (fun j v hj h => by omega)
theorem sp_merges {σ : Sg} {rs : Nat → List Nat} {n : Nat} (hR : RowsM σ rs) (hn : n < 16) (hO : mOK 4 n rs [n]) : Sp yX3_merges cX3_merges 4 (some .boolean) 2 [.inr 50, .inl (nI n)] σ (fun r σ' => r = some (.inl (bI (mrg 4 16 rs [n]).isSome)) ∧ (∀ q, q ≠ 52 → q ≠ 53 → q ≠ 62 → σ' q = σ q) ∧ (∀ i, i < 16 * n → σ' 52 i = σ 52 i) ∧ (∀ i, i ≠ n → σ' 53 i = σ 53 i) ∧ ∀ l, mrg 4 16 rs [n] = some l → σ' 53 n = nI l.length ∧ ∀ j v, l[j]? = some v → σ' 52 (16 * n + j) = nI v) := by
  refine Sp.intro rfl (Nat.le_of_ble_eq_true rfl) (fun Γ c r => ?_)
  show J Γ 0 [some (.inr 50), some (.inl (nI n)), none, none] [] σ
  have key : ∀ k (rs1 : Nat → List Nat) (acc : List Nat) (σ1 : Sg) (u v : Option PV), acc.length + k = 17 → mOK 4 n rs1 acc → RowsM σ1 rs1 → mrg 4 16 rs [n] = mrg 4 k rs1 acc → (∀ q, q ≠ 52 → q ≠ 53 → q ≠ 62 → σ1 q = σ q) → (∀ i, i < 16 * n → σ1 52 i = σ 52 i) → (∀ i, i ≠ n → σ1 53 i = σ 53 i) → σ1 53 n = nI acc.length → (∀ j v, acc[j]? = some v → σ1 52 (16 * n + j) = nI v) → J Γ 17 [some (.inr 50), some (.inl (nI n)), u, v] [] σ1 := by
    intro k
    induction k with
    | zero =>
      intro rs1 acc σ1 u v h1 h2
      have := h2.len
      omega
    | succ k ih =>
      intro rs1 acc σ1 u v h1 h2 hR1 hm g1 g2 g3 g4 g5
      have hlen := h2.len
      have hv : ∀ k d, k < 4 → d ∈ rs1 k → d < 16 := fun k d hk hd => by have := ((h2.2.2 k hk).2 d hd).1; omega
      have hunf : mrg 4 (k + 1) rs1 acc = if lfB rs1 4 then (match mNx rs1 4 with | none => none | some h => mrg 4 k (mTk h rs1) (acc ++ [h])) else some acc := rfl
      refine j_aload_n c dX3_merges_17 rfl ?_
      refine j_callV1 c kw_X3_79 (sp_isLeft hR1) dX3_merges_18 rfl rfl (by decide) (Nat.le_of_ble_eq_true rfl) (Nat.le_of_ble_eq_true rfl) rfl rfl ?_
      refine j_if_eq c 128 dX3_merges_21 (by decide) (fun e => ?_) (fun e => ?_)
      · have e2 := bI_z e
        rw [e2] at hunf
        have hm2 : mrg 4 16 rs [n] = some acc := by rw [hm, hunf]; rfl
        refine j_iconst c (nI 1) dX3_merges_128 (by decide) ?_
        exact j_iret c r dX3_merges_129 rfl ⟨by rw [hm2]; rfl, g1, g2, g3, fun l hl => by rw [hm2] at hl; cases hl; exact ⟨g4, g5⟩⟩
      · have e2 := bI_nz e
        rw [e2] at hunf
        refine j_aload_n c dX3_merges_24 rfl ?_
        refine j_callV1 c kw_X3_83 (sp_comesNext hR1 hv) dX3_merges_25 rfl rfl (by decide) (Nat.le_of_ble_eq_true rfl) (Nat.le_of_ble_eq_true rfl) rfl rfl ?_
        cases hx : mNx rs1 4 with
        | none =>
          rw [hx] at hunf
          have hm2 : mrg 4 16 rs [n] = none := by rw [hm, hunf]; rfl
          refine j_istore_n c dX3_merges_28 (Nat.le_of_ble_eq_true rfl) rfl ?_
          refine j_iload_n c dX3_merges_29 rfl ?_
          refine j_iconst c (-1) dX3_merges_30 (by decide) ?_
          refine j_icmp_ne c 36 dX3_merges_31 (by decide) (fun h_9 => absurd (by rfl) h_9) (fun _ => ?_)
          refine j_iconst c (nI 0) dX3_merges_34 (by decide) ?_
          exact j_iret c r dX3_merges_35 rfl ⟨by rw [hm2]; rfl, g1, g2, g3, fun l hl => by rw [hm2] at hl; cases hl⟩
        | some h =>
          rw [hx] at hunf
          have hm2 : mrg 4 16 rs [n] = mrg 4 k (mTk h rs1) (acc ++ [h]) := by rw [hm, hunf]; rfl
          have hst := h2.step hx
          have hl2 := hst.1.len
          have hl3 : (acc ++ [h]).length = acc.length + 1 := by simp
          refine j_istore_n c dX3_merges_28 (Nat.le_of_ble_eq_true rfl) rfl ?_
          refine j_iload_n c dX3_merges_29 rfl ?_
          refine j_iconst c (-1) dX3_merges_30 (by decide) ?_
          refine j_icmp_ne c 36 dX3_merges_31 (by decide) (fun _ => ?_) (fun h_9 => absurd h_9 (oI_ne (t := h) (by omega)))
          refine j_aload_n c dX3_merges_36 rfl ?_
          refine j_getR c fl_X3_13 dX3_merges_37 (Nat.le_of_ble_eq_true rfl) rfl rfl ?_
          refine j_bipush c (nI 16) dX3_merges_40 (by decide) ?_
          refine j_iload_n c dX3_merges_42 rfl ?_
          refine j_imul c _ dX3_merges_43 (by first | exact pk_mul _ _ | rfl) ?_
          refine j_aload_n c dX3_merges_44 rfl ?_
          refine j_getR c fl_X3_16 dX3_merges_45 (Nat.le_of_ble_eq_true rfl) rfl rfl ?_
          refine j_iload_n c dX3_merges_48 rfl ?_
          refine j_iald c dX3_merges_49 (Nat.le_of_ble_eq_true rfl) rfl rfl (by omega) (by decide) ?_
          rw [g4]
          refine j_iadd c _ dX3_merges_50 (by first | exact nI_add _ _ | rfl) ?_
          refine j_iload_n c dX3_merges_51 rfl ?_
          refine j_iast c dX3_merges_52 (by first | exact (Nat.le_of_ble_eq_true rfl) | exact hp.lt (by decide)) (by first | exact lf1 hp | exact lf2 hp | exact lf3 hp | exact lf4 hp | exact lf5 hp | exact lf6 hp | rfl) rfl (by omega) (by decide) ?_
          refine j_aload_n c dX3_merges_53 rfl ?_
          refine j_getR c fl_X3_16 dX3_merges_54 (Nat.le_of_ble_eq_true rfl) rfl rfl ?_
          refine j_iload_n c dX3_merges_57 rfl ?_
          refine j_dup2 c dX3_merges_58 ?_
          refine j_iald c dX3_merges_59 (Nat.le_of_ble_eq_true rfl) rfl rfl (by omega) (by decide) ?_
          rw [s2_np (by decide), g4]
          refine j_iconst c (nI 1) dX3_merges_60 (by decide) ?_
          refine j_iadd c _ dX3_merges_61 (by first | exact nI_add _ _ | rfl) ?_
          refine j_iast c dX3_merges_62 (by first | exact (Nat.le_of_ble_eq_true rfl) | exact hp.lt (by decide)) (by first | exact lf1 hp | exact lf2 hp | exact lf3 hp | exact lf4 hp | exact lf5 hp | exact lf6 hp | rfl) rfl (by omega) (by decide) ?_
          refine j_iconst c (nI 0) dX3_merges_63 (by decide) ?_
          refine j_istore_n c dX3_merges_64 (Nat.le_of_ble_eq_true rfl) rfl ?_
          have tk : ∀ j, j ≤ 4 → ∀ σ2 : Sg, (∀ q, q ≠ 62 → σ2 q = s2 (s2 σ1 52 (16 * n + acc.length) (nI h)) 53 n (nI (acc.length + 1)) q) → (∀ i, j ≤ i → σ2 62 i = σ1 62 i) → (∀ i, i < j → ∃ a, a + (mTk h rs1 i).length ≤ 16 ∧ σ2 62 i = nI a ∧ σ2 63 i = nI (a + (mTk h rs1 i).length) ∧ ∀ q v, (mTk h rs1 i)[q]? = some v → σ2 61 (16 * i + (a + q)) = nI v) → J Γ 65 [some (.inr 50), some (.inl (nI n)), some (.inl (nI h)), some (.inl (nI j))] [] σ2 := by
            refine loopN 4 ?_ ?_
            · intro σ2 f1 f2 f3
              refine j_iload_n c dX3_merges_65 rfl ?_
              refine j_iconst c (nI 4) dX3_merges_66 (by decide) ?_
              refine j_icmp_ge c 125 dX3_merges_67 (by decide) (fun _ => ?_) (fun h_9 => absurd (nI_le (Nat.le_refl _) (by decide)) h_9)
              refine j_goto c 17 dX3_merges_125 (by decide) ?_
              refine ih (mTk h rs1) (acc ++ [h]) σ2 _ _ (by omega) hst.1 f3 hm2 (fun q q1 q2 q3 => ?_) (fun i hi => ?_) (fun i hi => ?_) ?_ (fun j v hj => ?_)
              · rw [f1 q q3, s2_np q2, s2_np q1]; exact g1 q q1 q2 q3
              · rw [f1 52 (by decide), s2_np (by decide), s2_nk (by omega)]; exact g2 i hi
              · rw [f1 53 (by decide), s2_nk hi, s2_np (by decide)]; exact g3 i hi
              · rw [f1 53 (by decide), s2_at, hl3]
              · rw [f1 52 (by decide), s2_np (by decide)]
                by_cases ej : j = acc.length
                · subst ej
                  rw [List.getElem?_append_right (Nat.le_refl _), Nat.sub_self] at hj
                  cases hj
                  exact s2_at _ _ _ _
                · rw [s2_nk (by omega)]
                  have : j < acc.length := by
                    have := (List.getElem?_eq_some_iff.mp hj).1
                    omega
                  rw [List.getElem?_append_left this] at hj
                  exact g5 j v hj
            · intro j hj ihj σ2 f1 f2 f3
              obtain ⟨a, ha, h62, h63, h61⟩ := hR1 j hj
              have s63 : σ2 63 j = nI (a + (rs1 j).length) := by rw [f1 63 (by decide), s2_np (by decide), s2_np (by decide)]; exact h63
              have s61 : ∀ i, σ2 61 i = σ1 61 i := fun i => by rw [f1 61 (by decide), s2_np (by decide), s2_np (by decide)]
              have s62 : σ2 62 j = nI a := by rw [f2 j (Nat.le_refl _)]; exact h62
              have nxt : ∀ b, (b = a ∧ mTk h rs1 j = rs1 j) ∨ (b = a + 1 ∧ ∃ q, rs1 j = h :: q ∧ mTk h rs1 j = q) → J Γ 119 [some (.inr 50), some (.inl (nI n)), some (.inl (nI h)), some (.inl (nI j))] [] (s2 σ2 62 j (nI b)) := by
                intro b hb
                refine j_iinc c _ dX3_merges_119 rfl (by first | exact nI_1 _ | exact pk_m1 _ | rfl) rfl ?_
                refine j_goto c 65 dX3_merges_122 (by decide) ?_
                refine ihj _ (fun q hq => by rw [s2_np hq]; exact f1 q hq) (fun i hi => by rw [s2_nk (by omega)]; exact f2 i (by omega)) (fun i hi => ?_)
                by_cases ei : i = j
                · subst ei
                  rcases hb with ⟨hb1, hb2⟩ | ⟨hb1, q, hb2, hb3⟩
                  · rw [hb1, hb2]
                    refine ⟨a, ha, s2_at _ _ _ _, by rw [s2_np (by decide)]; exact s63, fun q v hq => by rw [s2_np (by decide), s61]; exact h61 q v hq⟩
                  · rw [hb1, hb3]
                    rw [hb2] at ha s63
                    simp only [List.length_cons] at ha s63
                    refine ⟨a + 1, by omega, s2_at _ _ _ _, by rw [s2_np (by decide), s63]; congr 1; omega, fun p v hq => ?_⟩
                    rw [s2_np (by decide), s61]
                    have := h61 (p + 1) v (by rw [hb2]; simpa using hq)
                    rw [show a + 1 + p = a + (p + 1) by omega]
                    exact this
                · obtain ⟨b', c1, c2, c3, c4⟩ := f3 i (by omega)
                  exact ⟨b', c1, by rw [s2_nk ei]; exact c2, by rw [s2_np (by decide)]; exact c3, fun q v hq => by rw [s2_np (by decide)]; exact c4 q v hq⟩
              refine j_iload_n c dX3_merges_65 rfl ?_
              refine j_iconst c (nI 4) dX3_merges_66 (by decide) ?_
              refine j_icmp_ge c 125 dX3_merges_67 (by decide) (fun h_9 => absurd h_9 (nI_ge hj (by decide))) (fun _ => ?_)
              refine j_aload_n c dX3_merges_70 rfl ?_
              refine j_getR c fl_X3_43 dX3_merges_71 (Nat.le_of_ble_eq_true rfl) rfl rfl ?_
              refine j_iload_n c dX3_merges_74 rfl ?_
              refine j_dup2 c dX3_merges_75 ?_
              refine j_iald c dX3_merges_76 (Nat.le_of_ble_eq_true rfl) rfl rfl (by omega) (by decide) ?_
              rw [s62]
              refine j_aload_n c dX3_merges_77 rfl ?_
              refine j_getR c fl_X3_43 dX3_merges_78 (Nat.le_of_ble_eq_true rfl) rfl rfl ?_
              refine j_iload_n c dX3_merges_81 rfl ?_
              refine j_iald c dX3_merges_82 (Nat.le_of_ble_eq_true rfl) rfl rfl (by omega) (by decide) ?_
              rw [s62]
              refine j_aload_n c dX3_merges_83 rfl ?_
              refine j_getR c fl_X3_46 dX3_merges_84 (Nat.le_of_ble_eq_true rfl) rfl rfl ?_
              refine j_iload_n c dX3_merges_87 rfl ?_
              refine j_iald c dX3_merges_88 (Nat.le_of_ble_eq_true rfl) rfl rfl (by omega) (by decide) ?_
              rw [s63]
              cases hr : rs1 j with
              | nil =>
                refine j_icmp_ge c 116 dX3_merges_89 (by decide) (fun _ => ?_) (fun h_9 => absurd (nI_le (by simp) (by simp; omega)) h_9)
                refine j_iconst c (nI 0) dX3_merges_116 (by decide) ?_
                refine j_iadd c (nI a) dX3_merges_117 (nI_add a 0) ?_
                refine j_iast c dX3_merges_118 (by first | exact (Nat.le_of_ble_eq_true rfl) | exact hp.lt (by decide)) (by first | exact lf1 hp | exact lf2 hp | exact lf3 hp | exact lf4 hp | exact lf5 hp | exact lf6 hp | rfl) rfl (by omega) (by decide) ?_
                exact nxt a (Or.inl ⟨rfl, by unfold mTk; rw [hr]; rfl⟩)
              | cons z q =>
                have hz2 := hv j z hj (by rw [hr]; exact List.mem_cons_self)
                have hz1 := h61 0 z (by rw [hr]; rfl)
                rw [Nat.add_zero, ← s61] at hz1
                rw [hr] at ha
                simp only [List.length_cons] at ha
                refine j_icmp_ge c 116 dX3_merges_89 (by decide) (fun h_9 => absurd h_9 (nI_ge (by simp only [List.length_cons]; omega) (by simp only [List.length_cons]; omega))) (fun _ => ?_)
                refine j_aload_n c dX3_merges_92 rfl ?_
                refine j_getR c fl_X3_40 dX3_merges_93 (Nat.le_of_ble_eq_true rfl) rfl rfl ?_
                refine j_bipush c (nI 16) dX3_merges_96 (by decide) ?_
                refine j_iload_n c dX3_merges_98 rfl ?_
                refine j_imul c _ dX3_merges_99 (by first | exact pk_mul _ _ | rfl) ?_
                refine j_aload_n c dX3_merges_100 rfl ?_
                refine j_getR c fl_X3_43 dX3_merges_101 (Nat.le_of_ble_eq_true rfl) rfl rfl ?_
                refine j_iload_n c dX3_merges_104 rfl ?_
                refine j_iald c dX3_merges_105 (Nat.le_of_ble_eq_true rfl) rfl rfl (by omega) (by decide) ?_
                rw [s62]
                refine j_iadd c _ dX3_merges_106 (by first | exact nI_add _ _ | rfl) ?_
                refine j_iald c dX3_merges_107 (by first | exact (Nat.le_of_ble_eq_true rfl) | exact hp.lt (by decide)) (by first | exact lf1 hp | exact lf2 hp | exact lf3 hp | exact lf4 hp | exact lf5 hp | exact lf6 hp | rfl) rfl (by omega) (by decide) ?_
                rw [hz1]
                refine j_iload_n c dX3_merges_108 rfl ?_
                refine j_icmp_ne c 116 dX3_merges_109 (by decide) (fun w => ?_) (fun w => ?_)
                · rw [nI_eq (by omega) (by omega)] at w
                  refine j_iconst c (nI 0) dX3_merges_116 (by decide) ?_
                  refine j_iadd c (nI a) dX3_merges_117 (nI_add a 0) ?_
                  refine j_iast c dX3_merges_118 (by first | exact (Nat.le_of_ble_eq_true rfl) | exact hp.lt (by decide)) (by first | exact lf1 hp | exact lf2 hp | exact lf3 hp | exact lf4 hp | exact lf5 hp | exact lf6 hp | rfl) rfl (by omega) (by decide) ?_
                  exact nxt a (Or.inl ⟨rfl, by unfold mTk; rw [hr]; simp [w]⟩)
                · rw [nI_eq (by omega) (by omega)] at w
                  subst w
                  refine j_iconst c (nI 1) dX3_merges_112 (by decide) ?_
                  refine j_goto c 117 dX3_merges_113 (by decide) ?_
                  refine j_iadd c _ dX3_merges_117 (by first | exact nI_add _ _ | rfl) ?_
                  refine j_iast c dX3_merges_118 (by first | exact (Nat.le_of_ble_eq_true rfl) | exact hp.lt (by decide)) (by first | exact lf1 hp | exact lf2 hp | exact lf3 hp | exact lf4 hp | exact lf5 hp | exact lf6 hp | rfl) rfl (by omega) (by decide) ?_
                  exact nxt (a + 1) (Or.inr ⟨rfl, q, hr, by unfold mTk; rw [hr]; simp⟩)
          refine tk 0 (Nat.zero_le _) _ (fun q hq => rfl) (fun i _ => by rw [s2_np (by decide), s2_np (by decide)]) (fun i hi => by omega)
  refine j_aload_n c dX3_merges_0 rfl ?_
  refine j_getR c fl_X3_13 dX3_merges_1 (Nat.le_of_ble_eq_true rfl) rfl rfl ?_
  refine j_bipush c (nI 16) dX3_merges_4 (by decide) ?_
  refine j_iload_n c dX3_merges_6 rfl ?_
  refine j_imul c _ dX3_merges_7 (by first | exact pk_mul _ _ | rfl) ?_
  refine j_iload_n c dX3_merges_8 rfl ?_
  refine j_iast c dX3_merges_9 (Nat.le_of_ble_eq_true rfl) rfl rfl (by omega) (by decide) ?_
  refine j_aload_n c dX3_merges_10 rfl ?_
  refine j_getR c fl_X3_16 dX3_merges_11 (Nat.le_of_ble_eq_true rfl) rfl rfl ?_
  refine j_iload_n c dX3_merges_14 rfl ?_
  refine j_iconst c (nI 1) dX3_merges_15 (by decide) ?_
  refine j_iast c dX3_merges_16 (Nat.le_of_ble_eq_true rfl) rfl rfl (by omega) (by decide) ?_
  refine key 16 rs [n] _ _ _ (by simp) hO (fun k hk => ?_) rfl (fun q q1 q2 _ => by rw [s2_np q2, s2_np q1]) (fun i hi => by rw [s2_np (by decide), s2_nk (by omega)]) (fun i hi => by rw [s2_nk hi, s2_np (by decide)]) (by rw [s2_at]; rfl) (fun j v hj => ?_)
  · obtain ⟨a, c1, c2, c3, c4⟩ := hR k hk
    exact ⟨a, c1, by rw [s2_np (by decide), s2_np (by decide)]; exact c2, by rw [s2_np (by decide), s2_np (by decide)]; exact c3, fun j v h => by rw [s2_np (by decide), s2_np (by decide)]; exact c4 j v h⟩
  · have : j = 0 := by
      have := (List.getElem?_eq_some_iff.mp hj).1
      simp at this
      exact this
    subst this
    cases hj
    rw [s2_np (by decide)]
    exact s2_at _ _ _ _
