-- ===== 40c: the law's loop =====
def bmpN : Nat → Gm → Gm
  | 0, Γ => Γ
  | k + 1, Γ => bmpN k (bmp Γ)
theorem iinc5 (i : Nat) : nI i + Int32.ofInt 5 = nI (i + 5) := nI_add i 5
theorem law_loop {N : Nat} {xs : Nat → Int32} (hN : N ≤ 2560) : ∀ (n i : Nat) (Γ : Gm), N < i + 5 * (n + 1) → i ≤ 5000 → Cx Γ RL cL_law 10 → LwG Γ N xs → (∀ k, k ≤ n → ∀ (σ : Sg) (L : List (Option PV)), J (bmpN k Γ) 1141 L [.inl (nI 1)] σ) → (∀ k, k < n → RmX (bmpN k Γ)) → ∀ (σ : Sg) (u v : Option PV), Bth σ → J Γ 23 [some (.inr 68), some (.inr 0), some (.inr 50), some (.inr 67), some (.inl (nI i)), u, v] [] σ := by
  have hN31 : N < 2 ^ 31 := by omega
  intro n
  induction n with
  | zero =>
    intro i Γ h1 h2 c lg fin hR σ u v hB
    refine j_iload c dL_law_23 rfl ?_
    refine j_aload_n c dL_law_25 rfl ?_
    refine j_slen c lg dL_law_26 ?_
    refine j_iconst c (nI 5) dL_law_27 (by decide) ?_
    refine j_isub c (nI N - nI 5) dL_law_28 rfl ?_
    refine j_icmp_gt c 1140 dL_law_29 (by decide) (fun _ => ?_) (fun h_9 => absurd ((lenI (by omega) (by omega)).mpr (by omega)) h_9)
    refine j_iconst c (nI 1) dL_law_1140 (by decide) ?_
    exact fin 0 (Nat.le_refl _) σ _
  | succ n ih =>
    intro i Γ h1 h2 c lg fin hR σ u v hB
    have rm : RmX Γ := hR 0 (by omega)
    obtain ⟨T, hW, hKd, hX, hM⟩ := hB
    refine j_iload c dL_law_23 rfl ?_
    refine j_aload_n c dL_law_25 rfl ?_
    refine j_slen c lg dL_law_26 ?_
    refine j_iconst c (nI 5) dL_law_27 (by decide) ?_
    refine j_isub c (nI N - nI 5) dL_law_28 rfl ?_
    by_cases he : N < i + 5
    · refine j_icmp_gt c 1140 dL_law_29 (by decide) (fun _ => ?_) (fun h_9 => absurd ((lenI (by omega) (by omega)).mpr he) h_9)
      refine j_iconst c (nI 1) dL_law_1140 (by decide) ?_
      exact fin 0 (by omega) σ _
    · have hi : i + 5 ≤ N := by omega
      have nx : ∀ (σ' : Sg) (u v : Option PV), Bth σ' → J (bmp Γ) 1134 [some (.inr 68), some (.inr 0), some (.inr 50), some (.inr 67), some (.inl (nI i)), u, v] [] σ' := by
        intro σ' u v hb
        have c := c.bmp rm
        refine j_iinc c _ dL_law_1134 rfl (iinc5 i) rfl ?_
        refine j_goto c 23 dL_law_1137 (by decide) ?_
        exact ih (i + 5) (bmp Γ) (by omega) (by omega) c (lwg_bmp lg) (fun k hk => fin (k + 1) (by omega)) (fun k hk => hR (k + 1) (by omega)) σ' u v hb
      have nw : ∀ σ' : Sg, Bth σ' → J Γ 1134 [some (.inr 68), some (.inr 0), some (.inr 50), some (.inr 67), some (.inl (nI i)), u, v] [] σ' := fun σ' hb => j_widen (nx σ' u v hb)
      obtain ⟨k, hk, e⟩ := and31 (xs i)
      refine j_icmp_gt c 1140 dL_law_29 (by decide) (fun h_9 => absurd h_9 (fun h => he ((lenI (by omega) (by omega)).mp h))) (fun _ => ?_)
      refine j_aload_n c dL_law_32 rfl ?_
      refine j_iload c dL_law_33 rfl ?_
      refine j_sld c lg dL_law_35 (by omega) hN31 ?_
      refine j_bipush c (nI 31) dL_law_36 (by decide) ?_
      refine j_iand c (nI k) dL_law_38 e ?_
      by_cases hk24 : k < 24
      · rcases (show k = 0 ∨ k = 1 ∨ k = 2 ∨ k = 3 ∨ k = 4 ∨ k = 5 ∨ k = 6 ∨ k = 7 ∨ k = 8 ∨ k = 9 ∨ k = 10 ∨ k = 11 ∨ k = 12 ∨ k = 13 ∨ k = 14 ∨ k = 15 ∨ k = 16 ∨ k = 17 ∨ k = 18 ∨ k = 19 ∨ k = 20 ∨ k = 21 ∨ k = 22 ∨ k = 23 by omega) with rfl | rfl | rfl | rfl | rfl | rfl | rfl | rfl | rfl | rfl | rfl | rfl | rfl | rfl | rfl | rfl | rfl | rfl | rfl | rfl | rfl | rfl | rfl | rfl
        · refine j_tableIn (off := 109) c 148 dL_law_39 (by decide) (by decide) (by decide) (by decide) ?_
          exact law_0 c lg hN31 hi hW hKd hX hM nw
        · refine j_tableIn (off := 158) c 197 dL_law_39 (by decide) (by decide) (by decide) (by decide) ?_
          exact law_1 c lg hN31 hi hW hKd hX hM nw
        · refine j_tableIn (off := 195) c 234 dL_law_39 (by decide) (by decide) (by decide) (by decide) ?_
          exact law_2 c lg hN31 hi hW hKd hX hM nw
        · refine j_tableIn (off := 232) c 271 dL_law_39 (by decide) (by decide) (by decide) (by decide) ?_
          exact law_3 c lg hN31 hi hW hKd hX hM nw
        · refine j_tableIn (off := 281) c 320 dL_law_39 (by decide) (by decide) (by decide) (by decide) ?_
          exact law_4 c lg hN31 hi hW hKd hX hM nw
        · refine j_tableIn (off := 306) c 345 dL_law_39 (by decide) (by decide) (by decide) (by decide) ?_
          exact law_5 c lg hN31 hi hW hKd hX hM nw
        · refine j_tableIn (off := 367) c 406 dL_law_39 (by decide) (by decide) (by decide) (by decide) ?_
          exact law_6 c lg hN31 hi hW hKd hX hM nw
        · refine j_tableIn (off := 404) c 443 dL_law_39 (by decide) (by decide) (by decide) (by decide) ?_
          exact law_7 c lg hN31 hi hW hKd hX hM nw
        · refine j_tableIn (off := 417) c 456 dL_law_39 (by decide) (by decide) (by decide) (by decide) ?_
          exact law_8 c lg hN31 hi hW hKd hX hM nw
        · refine j_tableIn (off := 442) c 481 dL_law_39 (by decide) (by decide) (by decide) (by decide) ?_
          exact law_9 c lg hN31 hi hW hKd hX hM nw
        · refine j_tableIn (off := 479) c 518 dL_law_39 (by decide) (by decide) (by decide) (by decide) ?_
          exact law_10 c rm lg hN31 hi hW hKd hX hM nx
        · refine j_tableIn (off := 559) c 598 dL_law_39 (by decide) (by decide) (by decide) (by decide) ?_
          exact law_11 c lg hN31 hi hW hKd hX hM nw
        · refine j_tableIn (off := 596) c 635 dL_law_39 (by decide) (by decide) (by decide) (by decide) ?_
          exact law_12 c lg hN31 hi hW hKd hX hM nw
        · refine j_tableIn (off := 633) c 672 dL_law_39 (by decide) (by decide) (by decide) (by decide) ?_
          exact law_13 c lg hN31 hi hW hKd hX hM nw
        · refine j_tableIn (off := 670) c 709 dL_law_39 (by decide) (by decide) (by decide) (by decide) ?_
          exact law_14 c lg hN31 hi hW hKd hX hM nw
        · refine j_tableIn (off := 719) c 758 dL_law_39 (by decide) (by decide) (by decide) (by decide) ?_
          exact law_15 c lg hN31 hi hW hKd hX hM nw
        · refine j_tableIn (off := 756) c 795 dL_law_39 (by decide) (by decide) (by decide) (by decide) ?_
          exact law_16 c rm lg hN31 hi hW hKd hX hM nx
        · refine j_tableIn (off := 824) c 863 dL_law_39 (by decide) (by decide) (by decide) (by decide) ?_
          exact law_17 c lg hN31 hi hW hKd hX hM nw
        · refine j_tableIn (off := 861) c 900 dL_law_39 (by decide) (by decide) (by decide) (by decide) ?_
          exact law_18 c lg hN31 hi hW hKd hX hM nw
        · refine j_tableIn (off := 898) c 937 dL_law_39 (by decide) (by decide) (by decide) (by decide) ?_
          exact law_19 c lg hN31 hi hW hKd hX hM nw
        · refine j_tableIn (off := 935) c 974 dL_law_39 (by decide) (by decide) (by decide) (by decide) ?_
          exact law_20 c lg hN31 hi hW hKd hX hM nw
        · refine j_tableIn (off := 984) c 1023 dL_law_39 (by decide) (by decide) (by decide) (by decide) ?_
          exact law_21 c lg hN31 hi hW hKd hX hM nw
        · refine j_tableIn (off := 1033) c 1072 dL_law_39 (by decide) (by decide) (by decide) (by decide) ?_
          exact law_22 c lg hN31 hi hW hKd hX hM nw
        · refine j_tableIn (off := 1070) c 1109 dL_law_39 (by decide) (by decide) (by decide) (by decide) ?_
          exact law_23 c lg hN31 hi hW hKd hX hM nw
      · refine j_tableOut c 1134 dL_law_39 (by right; rw [nI_toInt (by omega)]; omega) (by decide) ?_
        exact nw σ ⟨T, hW, hKd, hX, hM⟩
