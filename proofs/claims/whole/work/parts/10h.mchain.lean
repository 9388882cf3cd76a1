-- ===== 10h: the reference's chains =====
theorem sp_laysChain {T : TS} {σ : Sg} (hM : InvM T none σ) (hW : WF T) {f call : Nat} (hf : f < tnf T) (hc : vcall (tn T) (tpl T f) call = true) : Sp yX3_laysChain cX3_laysChain 4 none 3 [.inr 50, .inl (nI f), .inl (nI call)] σ (fun r σ' => r = none ∧ chP σ (tch T f call) (tcr T f call) σ') := by
  have h4 := hW.2.2.2.1
  have hru := hW.2.2.2.2.2.2.1
  refine Sp.intro rfl (Nat.le_of_ble_eq_true rfl) (fun Γ c r => ?_)
  show J Γ 0 [some (.inr 50), some (.inl (nI f)), some (.inl (nI call)), none] [] σ
  generalize hR : befB (tls T) (ttg T f) (tru T) call = R at *
  have key : ∀ k (S : Nat → Bool) (D : List Nat) (σ1 : Sg), cnt S 13 ≤ k → D.length + k ≤ 12 → (∀ m, m < 13 → S m = true → appB (tls T) (ttg T f) call m = true) → keepM σ σ1 → σ1 50 0 = σ 50 0 → σ1 50 22 = nI D.length → (∀ j m, D[j]? = some m → σ1 64 j = nI m) → (∀ m, m < 32 → bt (σ1 50 23) m = (decide (m < 13) && S m)) → tch T f call = D ++ chn R k S → tcr T f call = chR R k S → J Γ 30 [some (.inr 50), some (.inl (nI f)), some (.inl (nI call)), some (.inl (fstI S R))] [] σ1 := by
    intro k
    induction k with
    | zero =>
      intro S D σ1 h1 h2 h3 h4 h5 h6 h7 h8 h9 h10
      have hS := cnt_0 (n := 13) (by omega) (S := S)
      rw [fstI_no hS]
      refine j_iload_n c dX3_laysChain_30 rfl ?_
      refine j_if_lt c 86 dX3_laysChain_31 (by decide) (fun _ => ?_) (fun h => absurd (by decide) h)
      rw [show chn R 0 S = [] from rfl, List.append_nil] at h9
      exact j_ret c r dX3_laysChain_86 ⟨rfl, h4, h5, by rw [h9]; exact h6, by rw [h9]; exact h7, by rw [h10]; exact h8⟩
    | succ k ih =>
      intro S D σ1 h1 h2 h3 h4 h5 h6 h7 h8 h9 h10
      rcases fstI_fnd (S := S) (R := R) with ⟨hneg, hno⟩ | ⟨m, hm, hs, hv, hso⟩
      · refine j_iload_n c dX3_laysChain_30 rfl ?_
        refine j_if_lt c 86 dX3_laysChain_31 (by decide) (fun _ => ?_) (fun h => absurd hneg h)
        have e1 : chn R (k + 1) S = [] := by unfold chn; rw [hno]
        have e2 : chR R (k + 1) S = S := by unfold chR; rw [hno]
        rw [e1, List.append_nil] at h9
        rw [e2] at h10
        exact j_ret c r dX3_laysChain_86 ⟨rfl, h4, h5, by rw [h9]; exact h6, by rw [h9]; exact h7, by rw [h10]; exact h8⟩
      · have e1 : chn R (k + 1) S = m :: chn R k (remB S m) := by
          show (match fnd (fstP S R) 13 with | some m => m :: chn R k (remB S m) | none => []) = _
          rw [hso]
        have e2 : chR R (k + 1) S = chR R k (remB S m) := by
          show (match fnd (fstP S R) 13 with | some m => chR R k (remB S m) | none => S) = _
          rw [hso]
        rw [e1] at h9
        rw [e2] at h10
        rw [hv]
        refine j_iload_n c dX3_laysChain_30 rfl ?_
        refine j_if_lt c 86 dX3_laysChain_31 (by decide) (fun h => absurd h (nI_pos (by omega))) (fun _ => ?_)
        refine j_aload_n c dX3_laysChain_34 rfl ?_
        refine j_getR c fl_X3_53 dX3_laysChain_35 (Nat.le_of_ble_eq_true rfl) rfl rfl ?_
        refine j_aload_n c dX3_laysChain_38 rfl ?_
        refine j_getI c fl_X3_166 dX3_laysChain_39 (Nat.le_of_ble_eq_true rfl) rfl rfl ?_
        rw [h6]
        refine j_iload_n c dX3_laysChain_42 rfl ?_
        refine j_iast c dX3_laysChain_43 (by first | exact (Nat.le_of_ble_eq_true rfl) | exact hp.lt (by decide)) (by first | exact lf1 hp | exact lf2 hp | exact lf3 hp | exact lf4 hp | exact lf5 hp | exact lf6 hp | rfl) rfl (by omega) (by decide) ?_
        refine j_aload_n c dX3_laysChain_44 rfl ?_
        refine j_dup c dX3_laysChain_45 ?_
        refine j_getI c fl_X3_166 dX3_laysChain_46 (Nat.le_of_ble_eq_true rfl) rfl rfl ?_
        rw [s2_np (by decide), h6]
        refine j_iconst c (nI 1) dX3_laysChain_49 (by decide) ?_
        refine j_iadd c _ dX3_laysChain_50 (by first | exact nI_add _ _ | rfl) ?_
        refine j_putI c fl_X3_166 dX3_laysChain_51 (Nat.le_of_ble_eq_true rfl) rfl rfl ?_
        refine j_aload_n c dX3_laysChain_54 rfl ?_
        refine j_dup c dX3_laysChain_55 ?_
        refine j_getI c fl_X3_163 dX3_laysChain_56 (Nat.le_of_ble_eq_true rfl) rfl rfl ?_
        refine j_iconst c (nI 1) dX3_laysChain_59 (by decide) ?_
        refine j_iload_n c dX3_laysChain_60 rfl ?_
        refine j_ishl c _ dX3_laysChain_61 rfl ?_
        refine j_iconst c (-1) dX3_laysChain_62 (by decide) ?_
        refine j_ixor c _ dX3_laysChain_63 rfl ?_
        refine j_iand c _ dX3_laysChain_64 rfl ?_
        have q23 : (s2 (s2 σ1 64 D.length (nI m)) 50 22 (nI (D.length + 1))) 50 23 = σ1 50 23 := by rw [s2_nk (by decide), s2_np (by decide)]
        rw [q23]
        refine j_putI c fl_X3_163 dX3_laysChain_65 (Nat.le_of_ble_eq_true rfl) rfl rfl ?_
        refine j_aload_n c dX3_laysChain_68 rfl ?_
        refine j_iload_n c dX3_laysChain_69 rfl ?_
        refine j_iload_n c dX3_laysChain_70 rfl ?_
        refine j_aload_n c dX3_laysChain_71 rfl ?_
        have hk2 : keepM σ (s2 (s2 (s2 σ1 64 D.length (nI m)) 50 22 (nI (D.length + 1))) 50 23 (σ1 50 23 &&& (nI 1 <<< (nI m &&& 31) ^^^ -1))) := by
          refine h4.trans ?_
          refine keepM.trans ?_ (keepM.fld (Or.inr (Or.inr rfl)))
          refine keepM.trans ?_ (keepM.fld (Or.inr (Or.inl rfl)))
          exact keepM.row (by decide) (by decide)
        have b64 : ∀ j m', (D ++ [m])[j]? = some m' → (s2 (s2 (s2 σ1 64 D.length (nI m)) 50 22 (nI (D.length + 1))) 50 23 (σ1 50 23 &&& (nI 1 <<< (nI m &&& 31) ^^^ -1))) 64 j = nI m' := by
          intro j m' hj
          rw [s2_np (by decide), s2_np (by decide)]
          by_cases ej : j = D.length
          · subst ej
            rw [List.getElem?_append_right (Nat.le_refl _), Nat.sub_self] at hj
            cases hj
            exact s2_at _ _ _ _
          · rw [s2_nk ej]
            have : j < D.length := by
              have := (List.getElem?_eq_some_iff.mp hj).1
              simp at this
              omega
            rw [List.getElem?_append_left this] at hj
            exact h7 j m' hj
        have b23 : ∀ o, o < 32 → bt ((s2 (s2 (s2 σ1 64 D.length (nI m)) 50 22 (nI (D.length + 1))) 50 23 (σ1 50 23 &&& (nI 1 <<< (nI m &&& 31) ^^^ -1))) 50 23) o = (decide (o < 13) && remB S m o) := by
          intro o ho
          rw [s2_at, bt_and, bt_not _ ho, bt_one (by omega), h8 o ho]
          simp [remB, Bool.and_assoc]
        have b22 : (s2 (s2 (s2 σ1 64 D.length (nI m)) 50 22 (nI (D.length + 1))) 50 23 (σ1 50 23 &&& (nI 1 <<< (nI m &&& 31) ^^^ -1))) 50 22 = nI (D ++ [m]).length := by
          rw [s2_nk (by decide), s2_at]; simp
        have b0 : (s2 (s2 (s2 σ1 64 D.length (nI m)) 50 22 (nI (D.length + 1))) 50 23 (σ1 50 23 &&& (nI 1 <<< (nI m &&& 31) ^^^ -1))) 50 0 = σ 50 0 := by
          rw [s2_nk (by decide), s2_nk (by decide), s2_np (by decide)]; exact h5
        generalize hσ2 : (s2 (s2 (s2 σ1 64 D.length (nI m)) 50 22 (nI (D.length + 1))) 50 23 (σ1 50 23 &&& (nI 1 <<< (nI m &&& 31) ^^^ -1))) = σ2 at hk2 b64 b23 b22 b0 ⊢
        have hM2 := hM.keep hk2
        refine j_getI c fl_X3_163 dX3_laysChain_72 (Nat.le_of_ble_eq_true rfl) rfl rfl ?_
        refine j_aload_n c dX3_laysChain_75 rfl ?_
        refine j_getI c fl_X3_133 dX3_laysChain_76 (Nat.le_of_ble_eq_true rfl) rfl rfl ?_
        rw [hM2.2.2.2.2.2.2.2.2.2.1]
        have hS2 : ∀ m', m' < 13 → remB S m m' = true → appB (tls T) (tgx (ttg T f) none) call m' = true := fun m' hm' h => by
          simp only [remB, Bool.and_eq_true] at h
          exact h3 m' hm' h.1
        refine j_callV1 c kw_X3_155 (sp_firstOf hM2 hW hf (MoOK.no T f) hc _ (remB S m) b23 hS2 hru) dX3_laysChain_79 rfl rfl (by decide) (Nat.le_of_ble_eq_true rfl) (Nat.le_of_ble_eq_true rfl) rfl rfl ?_
        refine j_istore_n c dX3_laysChain_82 (Nat.le_of_ble_eq_true rfl) rfl ?_
        refine j_goto c 30 dX3_laysChain_83 (by decide) ?_
        have hR2 : befB (tls T) (tgx (ttg T f) none) (tru T) call = R := hR
        rw [hR2]
        have hcr := cnt_rem (S := S) (m := m) (n := 13) hm hs
        exact ih (remB S m) (D ++ [m]) σ2 (by omega) (by simp; omega) hS2 hk2 b0 b22 b64 b23 (by rw [h9]; simp) h10
  refine j_aload_n c dX3_laysChain_0 rfl ?_
  refine j_aload_n c dX3_laysChain_1 rfl ?_
  refine j_iload_n c dX3_laysChain_2 rfl ?_
  refine j_iload_n c dX3_laysChain_3 rfl ?_
  refine j_callV1 c kw_X3_152 (sp_applicableTo hM hW hf (MoOK.no T f) hc) dX3_laysChain_4 rfl rfl (by decide) (Nat.le_of_ble_eq_true rfl) (Nat.le_of_ble_eq_true rfl) rfl rfl ?_
  refine j_putI c fl_X3_163 dX3_laysChain_7 (Nat.le_of_ble_eq_true rfl) rfl rfl ?_
  refine j_aload_n c dX3_laysChain_10 rfl ?_
  refine j_iconst c (nI 0) dX3_laysChain_11 (by decide) ?_
  refine j_putI c fl_X3_166 dX3_laysChain_12 (Nat.le_of_ble_eq_true rfl) rfl rfl ?_
  refine j_aload_n c dX3_laysChain_15 rfl ?_
  refine j_iload_n c dX3_laysChain_16 rfl ?_
  refine j_iload_n c dX3_laysChain_17 rfl ?_
  refine j_aload_n c dX3_laysChain_18 rfl ?_
  have hk2 : keepM σ (s2 (s2 σ 50 23 (mkS (appB (tls T) (tgx (ttg T f) none) call) 13)) 50 22 (nI 0)) := (keepM.fld (Or.inr (Or.inr rfl))).trans (keepM.fld (Or.inr (Or.inl rfl)))
  have b22 : (s2 (s2 σ 50 23 (mkS (appB (tls T) (tgx (ttg T f) none) call) 13)) 50 22 (nI 0)) 50 22 = nI ([] : List Nat).length := s2_at _ _ _ _
  have b23 : ∀ o, o < 32 → bt ((s2 (s2 σ 50 23 (mkS (appB (tls T) (tgx (ttg T f) none) call) 13)) 50 22 (nI 0)) 50 23) o = (decide (o < 13) && appB (tls T) (ttg T f) call o) := fun o ho => by
    rw [s2_nk (by decide), s2_at, bt_mkS _ (by decide)]
    rfl
  have b0 : (s2 (s2 σ 50 23 (mkS (appB (tls T) (tgx (ttg T f) none) call) 13)) 50 22 (nI 0)) 50 0 = σ 50 0 := by rw [s2_nk (by decide), s2_nk (by decide)]
  generalize (s2 (s2 σ 50 23 (mkS (appB (tls T) (tgx (ttg T f) none) call) 13)) 50 22 (nI 0)) = σ2 at hk2 b22 b23 b0 ⊢
  have hM2 := hM.keep hk2
  refine j_getI c fl_X3_163 dX3_laysChain_19 (Nat.le_of_ble_eq_true rfl) rfl rfl ?_
  refine j_aload_n c dX3_laysChain_22 rfl ?_
  refine j_getI c fl_X3_133 dX3_laysChain_23 (Nat.le_of_ble_eq_true rfl) rfl rfl ?_
  rw [hM2.2.2.2.2.2.2.2.2.2.1]
  refine j_callV1 c kw_X3_155 (sp_firstOf hM2 hW hf (MoOK.no T f) hc _ (appB (tls T) (ttg T f) call) b23 (fun m _ h => h) hru) dX3_laysChain_26 rfl rfl (by decide) (Nat.le_of_ble_eq_true rfl) (Nat.le_of_ble_eq_true rfl) rfl rfl ?_
  refine j_istore_n c dX3_laysChain_29 (Nat.le_of_ble_eq_true rfl) rfl ?_
  have hR2 : befB (tls T) (tgx (ttg T f) none) (tru T) call = R := hR
  rw [hR2]
  exact key 12 (appB (tls T) (ttg T f) call) [] σ2 (app_cnt hW hf) (by simp) (fun m _ h => h) hk2 b0 b22 (fun j m h => by simp at h) b23 (by unfold tch; rw [hR]; rfl) (by unfold tcr; rw [hR])
theorem sp_chainM {T : TS} {σ : Sg} (hM : InvM T none σ) (hW : WF T) (x y k : Int32) : Sp yX3_chain cX3_chain 4 (some .int) 4 [.inr 50, .inl x, .inl y, .inl k] σ (qM σ (aChain T x y k)) := by
  have h4 := hW.2.2.2.1
  have hM0 := hM.keep (k0 σ (nI 0))
  refine Sp.intro rfl (Nat.le_of_ble_eq_true rfl) (fun Γ c r => ?_)
  show J Γ 0 [some (.inr 50), some (.inl x), some (.inl y), some (.inl k)] [] σ
  refine j_aload_n c dX3_chain_0 rfl ?_
  refine j_iconst c (nI 0) dX3_chain_1 (by decide) ?_
  refine j_putI c fl_X3_65 dX3_chain_2 (Nat.le_of_ble_eq_true rfl) rfl rfl ?_
  refine j_aload_n c dX3_chain_5 rfl ?_
  refine j_iload_n c dX3_chain_6 rfl ?_
  refine j_iload_n c dX3_chain_7 rfl ?_
  refine j_callV1 c kw_X3_114 (sp_isCall hM0 hW x y) dX3_chain_8 rfl rfl (by decide) (Nat.le_of_ble_eq_true rfl) (Nat.le_of_ble_eq_true rfl) rfl rfl ?_
  refine j_if_ne c 16 dX3_chain_11 (by decide) (fun e => ?_) (fun e => ?_)
  · have e2 := bI_nz e
    obtain ⟨i, q, hi, rfl, rfl, hv⟩ := isC_of h4 e2
    have hq := vcall_lt hv (hW.2.2.2.2.1 i hi).2
    have hr : aChain T (nI i) (nI q) k = (if k = -1 then nI (tch T i q).length else if isN k (tch T i q).length then nI ((tch T i q).getD k.toNatClampNeg 0) else -1) := by
      unfold aChain
      rw [e2, nI_clamp (n := i) (by omega), nI_clamp (n := q) (by omega)]
      rfl
    rw [hr] at r
    have hlen : (tch T i q).length ≤ 12 := chn_len
    refine j_aload_n c dX3_chain_16 rfl ?_
    refine j_iload_n c dX3_chain_17 rfl ?_
    refine j_iload_n c dX3_chain_18 rfl ?_
    refine j_callV c kw_X3_169 (sp_laysChain hM0 hW hi hv) dX3_chain_19 rfl rfl (by decide) (Nat.le_of_ble_eq_true rfl) (Nat.le_of_ble_eq_true rfl) rfl rfl ?_
    rintro _ σ1 ⟨rfl, hk, -, h22, h64, -⟩
    refine j_iload_n c dX3_chain_22 rfl ?_
    refine j_iconst c (-1) dX3_chain_23 (by decide) ?_
    refine j_icmp_ne c 34 dX3_chain_24 (by decide) (fun g => ?_) (fun g => ?_)
    · refine j_iload_n c dX3_chain_34 rfl ?_
      refine j_iconst c (nI 0) dX3_chain_35 (by decide) ?_
      refine j_aload_n c dX3_chain_36 rfl ?_
      refine j_getI c fl_X3_166 dX3_chain_37 (Nat.le_of_ble_eq_true rfl) rfl rfl ?_
      rw [h22]
      have hin : Sp yX3_in cX3_in 3 (some .boolean) 0 [.inl k, .inl (nI 0), .inl (nI (tch T i q).length - nI 1)] σ1 (rt σ1 (.inl (bI (isN k (tch T i q).length)))) := by
        by_cases h0 : (tch T i q).length = 0
        · rw [h0]
          have hs := sp_in σ1 k (nI 0) (nI 0 - nI 1)
          have e : (decide (nI 0 ≤ k) && decide (k ≤ nI 0 - nI 1)) = isN k 0 := by
            unfold isN
            simp only [Int32.le_iff_toInt_le, nI_toInt (show 0 < 2 ^ 31 by decide)]
            congr 1
            simp only [decide_eq_decide]
            have : (nI 0 - nI 1).toInt = -1 := by decide
            omega
          rw [e] at hs
          exact hs
        · rw [pk_sub (by omega)]
          exact sp_inN σ1 k _ (by omega) (by omega)
      refine j_iconst c (nI 1) dX3_chain_40 (by decide) ?_
      refine j_isub c _ dX3_chain_41 rfl ?_
      refine j_callS1 c kw_X3_68 (hin) dX3_chain_42 rfl rfl (by decide) (Nat.le_of_ble_eq_true rfl) ?_
      refine j_if_eq c 57 dX3_chain_45 (by decide) (fun u => ?_) (fun u => ?_)
      · refine j_iconst c (-1) dX3_chain_57 (by decide) ?_
        exact j_iret c r dX3_chain_58 rfl ⟨by rw [if_neg g, bI_z u]; rfl, (k0 σ _).trans hk⟩
      · have u2 := bI_nz u
        obtain ⟨j, hj, hj2, rfl⟩ := isN_of u2
        have hg : (tch T i q)[j]? = some ((tch T i q).getD j 0) := by simp [hj]
        refine j_aload_n c dX3_chain_48 rfl ?_
        refine j_getR c fl_X3_53 dX3_chain_49 (Nat.le_of_ble_eq_true rfl) rfl rfl ?_
        refine j_iload_n c dX3_chain_52 rfl ?_
        refine j_iald c dX3_chain_53 (Nat.le_of_ble_eq_true rfl) rfl rfl (by omega) (by decide) ?_
        rw [h64 j _ hg]
        refine j_goto c 58 dX3_chain_54 (by decide) ?_
        exact j_iret c r dX3_chain_58 rfl ⟨by rw [if_neg g, u2, nI_clamp hj2]; rfl, (k0 σ _).trans hk⟩
    · refine j_aload_n c dX3_chain_27 rfl ?_
      refine j_getI c fl_X3_166 dX3_chain_28 (Nat.le_of_ble_eq_true rfl) rfl rfl ?_
      rw [h22]
      refine j_goto c 58 dX3_chain_31 (by decide) ?_
      exact j_iret c r dX3_chain_58 rfl ⟨by rw [if_pos g], (k0 σ _).trans hk⟩
  · refine j_iconst c (-1) dX3_chain_14 (by decide) ?_
    exact j_iret c r dX3_chain_15 rfl ⟨by simp [aChain, bI_z e], k0 σ _⟩
theorem sp_brokenM {T : TS} {σ : Sg} (hM : InvM T none σ) (hW : WF T) (x y : Int32) : Sp yX3_broken cX3_broken 3 (some .int) 4 [.inr 50, .inl x, .inl y] σ (qM σ (aBroken T x y)) := by
  have h4 := hW.2.2.2.1
  have hM0 := hM.keep (k0 σ (nI 0))
  refine Sp.intro rfl (Nat.le_of_ble_eq_true rfl) (fun Γ c r => ?_)
  show J Γ 0 [some (.inr 50), some (.inl x), some (.inl y)] [] σ
  refine j_aload_n c dX3_broken_0 rfl ?_
  refine j_iconst c (nI 0) dX3_broken_1 (by decide) ?_
  refine j_putI c fl_X3_65 dX3_broken_2 (Nat.le_of_ble_eq_true rfl) rfl rfl ?_
  refine j_aload_n c dX3_broken_5 rfl ?_
  refine j_iload_n c dX3_broken_6 rfl ?_
  refine j_iload_n c dX3_broken_7 rfl ?_
  refine j_callV1 c kw_X3_114 (sp_isCall hM0 hW x y) dX3_broken_8 rfl rfl (by decide) (Nat.le_of_ble_eq_true rfl) (Nat.le_of_ble_eq_true rfl) rfl rfl ?_
  refine j_if_ne c 16 dX3_broken_11 (by decide) (fun e => ?_) (fun e => ?_)
  · have e2 := bI_nz e
    obtain ⟨i, q, hi, rfl, rfl, hv⟩ := isC_of h4 e2
    have hq := vcall_lt hv (hW.2.2.2.2.1 i hi).2
    have hr : aBroken T (nI i) (nI q) = nI (cnt (tcr T i q) 13) := by
      unfold aBroken
      rw [e2, nI_clamp (n := i) (by omega), nI_clamp (n := q) (by omega)]
      rfl
    rw [hr] at r
    refine j_aload_n c dX3_broken_16 rfl ?_
    refine j_iload_n c dX3_broken_17 rfl ?_
    refine j_iload_n c dX3_broken_18 rfl ?_
    refine j_callV c kw_X3_169 (sp_laysChain hM0 hW hi hv) dX3_broken_19 rfl rfl (by decide) (Nat.le_of_ble_eq_true rfl) (Nat.le_of_ble_eq_true rfl) rfl rfl ?_
    rintro _ σ1 ⟨rfl, hk, -, -, -, h23⟩
    refine j_aload_n c dX3_broken_22 rfl ?_
    refine j_getI c fl_X3_163 dX3_broken_23 (Nat.le_of_ble_eq_true rfl) rfl rfl ?_
    refine j_callS1 c kw_X3_130 (sp_bits σ1 (σ1 50 23)) dX3_broken_26 rfl rfl (by decide) (Nat.le_of_ble_eq_true rfl) ?_
    have ec : cnt (bt (σ1 50 23)) 16 = cnt (tcr T i q) 13 := by
      have h1 : cnt (bt (σ1 50 23)) 13 = cnt (tcr T i q) 13 := cnt_congr (fun m hm => by rw [h23 m (by omega)]; simp [hm])
      have h2 : ∀ m, 13 ≤ m → m < 32 → bt (σ1 50 23) m = false := fun m h1 h2 => by rw [h23 m h2]; simp [show ¬ m < 13 by omega]
      show cnt (bt (σ1 50 23)) 13 + _ + _ + _ = _
      rw [h2 13 (by omega) (by omega), h2 14 (by omega) (by omega), h2 15 (by omega) (by omega), h1]
      rfl
    rw [ec]
    exact j_iret c r dX3_broken_29 rfl ⟨rfl, (k0 σ _).trans hk⟩
  · refine j_iconst c (-1) dX3_broken_14 (by decide) ?_
    exact j_iret c r dX3_broken_15 rfl ⟨by simp [aBroken, bI_z e], k0 σ _⟩
