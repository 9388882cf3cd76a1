-- ===== 20f: the class: what there is; is, list, meet, function, method, drop, rule, count =====
theorem used_bits {x : Int32} {g : Nat → Option Nat} (h : ∀ m, m < 32 → bt x m = (g m).isSome) (hg : ∀ m t, g m = some t → m < 12) : (∀ m, 13 ≤ m → m < 32 → bt x m = false) ∧ cnt (bt x) 13 = cnt (fun m => (g m).isSome) 12 := by
  have h0 : ∀ m, 12 ≤ m → m < 32 → bt x m = false := fun m h1 h2 => by
    rw [h m h2]
    cases e : g m with
    | none => rfl
    | some t => have := hg m t e; omega
  refine ⟨fun m h1 h2 => h0 m (by omega) h2, ?_⟩
  show cnt (bt x) 12 + (if bt x 12 then 1 else 0) = _
  rw [h0 12 (by decide) (by decide), cnt_congr (fun k hk => h k (by omega))]
  simp
theorem CX.same {T T' : TS} {σ : Sg} (h1 : tn T' = tn T) (h2 : tls T' = tls T) (h : CX T σ) : CX T' σ := by
  unfold CX
  rw [h1, h2]
  exact h
/-- one function changed -/
theorem InvX.one {T T' : TS} {σ σ' : Sg} {f : Nat} (hX : InvX T σ) (hf : f < tnf T) (h4 : tnf T ≤ 4) (e1 : tn T' = tn T) (e2 : tls T' = tls T) (e3 : tnf T' = tnf T) (e4 : tpl T' = tpl T) (e5 : tru T' = tru T) (eg : ∀ g, g ≠ f → ttg T' g = ttg T g ∧ tkd T' g = tkd T g ∧ tvl T' g = tvl T g ∧ tkp T' g = tkp T g) (hq : ∀ q, q ≠ 0 → q < 15 + 7 * f ∨ 15 + 7 * f + 7 ≤ q → σ' q = σ q) (h3 : σ' 0 3 = σ 0 3) (h4' : σ' 0 4 = σ 0 4) (h5 : σ' 0 5 = thi T') (h6 : σ' 0 6 = tmi T') (hF : FX (tn T) (tls T) (15 + 7 * f) (tpl T f) (ttg T' f) σ') (hK : KX (15 + 7 * f) (tkp T' f) σ') (hk : ∀ m t, ttg T' f m = some t → σ' (15 + 7 * f + 2) m = tkd T' f m ∧ σ' (15 + 7 * f + 3) m = tvl T' f m) (ha : σ' 0 10 = -1 ∨ (σ' 0 10 = σ 0 10 ∧ ttg T' = ttg T)) : InvX T' σ' := by
  obtain ⟨b1, b2, b3, b4, b5, b6, b7, b8, b9, b10⟩ := hX
  refine ⟨(b1.keep (fun q h1 h2 => hq q (by omega) (by omega))).same e1 e2, by rw [h3, e3]; exact b2, by rw [h4', e5]; exact b3, h5, h6, fun g hg => ?_, fun g h1 h2 => ?_, fun g hg => ?_, fun g m t hg ht => ?_, ?_⟩
  · rw [e1, e2, e4]
    rw [e3] at hg
    by_cases e : g = f
    · subst e; exact hF
    · rw [(eg g e).1]
      exact (b6 g hg).keep (by rw [hq _ (by omega) (by omega)]) (by rw [hq _ (by omega) (by omega)]) (hq _ (by omega) (by omega)) (hq _ (by omega) (by omega)) (hq _ (by omega) (by omega))
  · rw [e3] at h1
    rw [hq _ (by omega) (by omega), hq (15 + 7 * g + 5) (by omega) (by omega)]
    exact b7 g h1 h2
  · by_cases e : g = f
    · subst e; exact hK
    · rw [(eg g e).2.2.2]
      exact (b8 g hg).keep (by rw [hq _ (by omega) (by omega)]) (hq _ (by omega) (by omega))
  · rw [e3] at hg
    by_cases e : g = f
    · subst e; exact hk m t ht
    · rw [(eg g e).1] at ht
      rw [(eg g e).2.1, (eg g e).2.2.1, hq _ (by omega) (by omega), hq (15 + 7 * g + 3) (by omega) (by omega)]
      exact b9 g m t hg ht
  · rcases ha with h | ⟨h, e⟩
    · exact Or.inl h
    · rw [h, e, e1, e2, e3, e4, e5, hq 13 (by decide) (by omega)]
      exact b10
theorem sp_hasFunction (σ : Sg) (x : Int32) (n : Nat) (h1 : σ 0 3 = nI n) (hn : n ≤ 4) : Sp yX2_hasFunction cX2_hasFunction 2 (some .boolean) 0 [.inr 0, .inl x] σ (rt σ (.inl (bI (isN x n)))) := by
  refine Sp.intro rfl (Nat.le_of_ble_eq_true rfl) (fun Γ c r => ?_)
  show J Γ 0 [some (.inr 0), some (.inl x)] [] σ
  refine j_iload_n c dX2_hasFunction_0 rfl ?_
  refine j_if_lt c 16 dX2_hasFunction_1 (by decide) (fun e => ?_) (fun e => ?_)
  · refine j_iconst c (nI 0) dX2_hasFunction_16 (by decide) ?_
    exact j_iret c r dX2_hasFunction_17 rfl (rtF (isN_neg e))
  · obtain ⟨j, hj, rfl⟩ := nI_of e
    rw [isN_nI hj] at r
    refine j_iload_n c dX2_hasFunction_4 rfl ?_
    refine j_aload_n c dX2_hasFunction_5 rfl ?_
    refine j_getI c fl_X2_27 dX2_hasFunction_6 (Nat.le_of_ble_eq_true rfl) rfl rfl ?_
    rw [h1]
    refine j_icmp_ge c 16 dX2_hasFunction_9 (by decide) (fun g => ?_) (fun g => ?_)
    · rw [nI_leI (by omega) hj] at g
      refine j_iconst c (nI 0) dX2_hasFunction_16 (by decide) ?_
      exact j_iret c r dX2_hasFunction_17 rfl (rtF (by simp; omega))
    · rw [nI_leI (by omega) hj] at g
      refine j_iconst c (nI 1) dX2_hasFunction_12 (by decide) ?_
      refine j_goto c 17 dX2_hasFunction_13 (by decide) ?_
      exact j_iret c r dX2_hasFunction_17 rfl (rtT (by simp; omega))
theorem sp_hasMethod {T : TS} {σ : Sg} (hX : InvX T σ) (hW : WF T) (x y : Int32) : Sp yX2_hasMethod cX2_hasMethod 3 (some .boolean) 1 [.inr 0, .inl x, .inl y] σ (rt σ (.inl (bI (okDrop T x y)))) := by
  have h4 := hW.2.2.2.1
  refine Sp.intro rfl (Nat.le_of_ble_eq_true rfl) (fun Γ c r => ?_)
  show J Γ 0 [some (.inr 0), some (.inl x), some (.inl y)] [] σ
  unfold okDrop at r
  refine j_aload_n c dX2_hasMethod_0 rfl ?_
  refine j_iload_n c dX2_hasMethod_1 rfl ?_
  refine j_callV1 c kw_X2_144 (sp_hasFunction σ x (tnf T) hX.2.1 h4) dX2_hasMethod_2 rfl rfl (by decide) (Nat.le_of_ble_eq_true rfl) (Nat.le_of_ble_eq_true rfl) rfl rfl ?_
  refine j_if_eq c 38 dX2_hasMethod_5 (by decide) (fun h => ?_) (fun h => ?_)
  · refine j_iconst c (nI 0) dX2_hasMethod_38 (by decide) ?_
    exact j_iret c r dX2_hasMethod_39 rfl (rtF (by rw [bI_z h]; rfl))
  · have hx := bI_nz h
    obtain ⟨i, hi, hi2, rfl⟩ := isN_of hx
    refine j_iload_n c dX2_hasMethod_8 rfl ?_
    refine j_if_lt c 38 dX2_hasMethod_9 (by decide) (fun g => ?_) (fun g => ?_)
    · refine j_iconst c (nI 0) dX2_hasMethod_38 (by decide) ?_
      exact j_iret c r dX2_hasMethod_39 rfl (rtF (by rw [isN_neg g]; simp))
    · obtain ⟨k, hk2, rfl⟩ := nI_of g
      refine j_iload_n c dX2_hasMethod_12 rfl ?_
      refine j_bipush c (nI 12) dX2_hasMethod_13 (by decide) ?_
      refine j_icmp_ge c 38 dX2_hasMethod_15 (by decide) (fun q => ?_) (fun q => ?_)
      · rw [nI_leI (by decide) hk2] at q
        refine j_iconst c (nI 0) dX2_hasMethod_38 (by decide) ?_
        exact j_iret c r dX2_hasMethod_39 rfl (rtF (by rw [isN_nI hk2]; simp; omega))
      · rw [nI_leI (by decide) hk2] at q
        have hp : FnP (15 + 7 * i) := FnP.of (by omega)
        rw [nI_clamp hi2, nI_clamp hk2, hx, isN_nI hk2] at r
        refine j_aload_n c dX2_hasMethod_18 rfl ?_
        refine j_getR c fl_X2_18 dX2_hasMethod_19 (Nat.le_of_ble_eq_true rfl) rfl rfl ?_
        refine j_iload_n c dX2_hasMethod_22 rfl ?_
        refine j_aald c dX2_hasMethod_23 (Nat.le_of_ble_eq_true rfl) rfl rfl (by omega) (by decide) ?_
        refine j_getI c fl_X2_126 dX2_hasMethod_24 hp.lt0 (lf0 hp) rfl ?_
        refine j_iload_n c dX2_hasMethod_27 rfl ?_
        refine j_ishr c _ dX2_hasMethod_28 rfl ?_
        refine j_iconst c (nI 1) dX2_hasMethod_29 (by decide) ?_
        refine j_iand c _ dX2_hasMethod_30 (bt_shr _ (by omega)) ?_
        rw [(hX.2.2.2.2.2.1 i hi).2.1 k (by omega)]
        refine j_if_eq c 38 dX2_hasMethod_31 (by decide) (fun e => ?_) (fun e => ?_)
        · refine j_iconst c (nI 0) dX2_hasMethod_38 (by decide) ?_
          exact j_iret c r dX2_hasMethod_39 rfl (rtF (by rw [bI_z e]; simp))
        · refine j_iconst c (nI 1) dX2_hasMethod_34 (by decide) ?_
          refine j_goto c 39 dX2_hasMethod_35 (by decide) ?_
          exact j_iret c r dX2_hasMethod_39 rfl (rtT (by rw [bI_nz e]; simp; omega))
theorem sp_hasCall {T : TS} {σ : Sg} (hX : InvX T σ) (hW : WF T) (x y : Int32) : Sp yX2_hasCall cX2_hasCall 3 (some .boolean) 1 [.inr 0, .inl x, .inl y] σ (rt σ (.inl (bI (isC T x y)))) := by
  have h4 := hW.2.2.2.1
  have hn := hW.1
  refine Sp.intro rfl (Nat.le_of_ble_eq_true rfl) (fun Γ c r => ?_)
  show J Γ 0 [some (.inr 0), some (.inl x), some (.inl y)] [] σ
  refine j_aload_n c dX2_hasCall_0 rfl ?_
  refine j_iload_n c dX2_hasCall_1 rfl ?_
  refine j_callV1 c kw_X2_144 (sp_hasFunction σ x (tnf T) hX.2.1 h4) dX2_hasCall_2 rfl rfl (by decide) (Nat.le_of_ble_eq_true rfl) (Nat.le_of_ble_eq_true rfl) rfl rfl ?_
  refine j_if_eq c 29 dX2_hasCall_5 (by decide) (fun h => ?_) (fun h => ?_)
  · refine j_iconst c (nI 0) dX2_hasCall_29 (by decide) ?_
    exact j_iret c r dX2_hasCall_30 rfl (rtF (by simp [isC, bI_z h]))
  · have hx := bI_nz h
    obtain ⟨i, hi, hi2, rfl⟩ := isN_of hx
    have hpl := hW.2.2.2.2.1 i hi
    have h16 := p16 hpl.2
    have hp : FnP (15 + 7 * i) := FnP.of (by omega)
    refine j_iload_n c dX2_hasCall_8 rfl ?_
    refine j_if_lt c 29 dX2_hasCall_9 (by decide) (fun g => ?_) (fun g => ?_)
    · refine j_iconst c (nI 0) dX2_hasCall_29 (by decide) ?_
      exact j_iret c r dX2_hasCall_30 rfl (rtF (by simp [isC, isN_neg g]))
    · obtain ⟨k, hk, rfl⟩ := nI_of g
      rw [isC_nI hi h4 hk] at r
      refine j_iload_n c dX2_hasCall_12 rfl ?_
      refine j_iconst c (nI 1) dX2_hasCall_13 (by decide) ?_
      refine j_iconst c (nI 4) dX2_hasCall_14 (by decide) ?_
      refine j_aload_n c dX2_hasCall_15 rfl ?_
      refine j_getR c fl_X2_18 dX2_hasCall_16 (Nat.le_of_ble_eq_true rfl) rfl rfl ?_
      refine j_iload_n c dX2_hasCall_19 rfl ?_
      refine j_aald c dX2_hasCall_20 (Nat.le_of_ble_eq_true rfl) rfl rfl (by omega) (by decide) ?_
      refine j_getI c fl_X2_93 dX2_hasCall_21 hp.lt0 (lf0 hp) rfl ?_
      rw [(hX.2.2.2.2.2.1 i hi).1]
      refine j_imul c _ dX2_hasCall_24 (by first | exact pk_mul _ _ | rfl) ?_
      refine j_ishl c _ dX2_hasCall_25 (shl16 hpl.2) ?_
      refine j_icmp_lt c 31 dX2_hasCall_26 (by decide) (fun e => ?_) (fun e => ?_)
      · rw [nI_ltI hk (by omega)] at e
        have d0 := dg_lt k 0
        have d1 := dg_lt k 1
        have d2 := dg_lt k 2
        refine j_aload_n c dX2_hasCall_31 rfl ?_
        refine j_getR c fl_X2_12 dX2_hasCall_32 (Nat.le_of_ble_eq_true rfl) rfl rfl ?_
        refine j_iload_n c dX2_hasCall_35 rfl ?_
        refine j_iconst c (nI 0) dX2_hasCall_36 (by decide) ?_
        refine j_callS1 c kw_X2_225 (sp_classAt σ k 0 hk (by decide)) dX2_hasCall_37 rfl rfl (by decide) (Nat.le_of_ble_eq_true rfl) ?_
        refine j_callV1 c kw_X2_72 (sp_has σ (nI (dg k 0)) (tn T) hX.1.1 hn.2) dX2_hasCall_40 rfl rfl (by decide) (Nat.le_of_ble_eq_true rfl) (Nat.le_of_ble_eq_true rfl) rfl rfl ?_
        rw [isN_nI (by omega)]
        refine j_if_eq c 80 dX2_hasCall_43 (by decide) (fun q0 => ?_) (fun q0 => ?_)
        · refine j_iconst c (nI 0) dX2_hasCall_80 (by decide) ?_
          exact j_iret c r dX2_hasCall_81 rfl (rtF (vcall_no (p := 0) hn.1 hpl.2 (by simpa using bI_z q0)))
        · refine j_aload_n c dX2_hasCall_46 rfl ?_
          refine j_getR c fl_X2_12 dX2_hasCall_47 (Nat.le_of_ble_eq_true rfl) rfl rfl ?_
          refine j_iload_n c dX2_hasCall_50 rfl ?_
          refine j_iconst c (nI 1) dX2_hasCall_51 (by decide) ?_
          refine j_callS1 c kw_X2_225 (sp_classAt σ k 1 hk (by decide)) dX2_hasCall_52 rfl rfl (by decide) (Nat.le_of_ble_eq_true rfl) ?_
          refine j_callV1 c kw_X2_72 (sp_has σ (nI (dg k 1)) (tn T) hX.1.1 hn.2) dX2_hasCall_55 rfl rfl (by decide) (Nat.le_of_ble_eq_true rfl) (Nat.le_of_ble_eq_true rfl) rfl rfl ?_
          rw [isN_nI (by omega)]
          refine j_if_eq c 80 dX2_hasCall_58 (by decide) (fun q1 => ?_) (fun q1 => ?_)
          · refine j_iconst c (nI 0) dX2_hasCall_80 (by decide) ?_
            exact j_iret c r dX2_hasCall_81 rfl (rtF (vcall_no (p := 1) hn.1 hpl.2 (by simpa using bI_z q1)))
          · refine j_aload_n c dX2_hasCall_61 rfl ?_
            refine j_getR c fl_X2_12 dX2_hasCall_62 (Nat.le_of_ble_eq_true rfl) rfl rfl ?_
            refine j_iload_n c dX2_hasCall_65 rfl ?_
            refine j_iconst c (nI 2) dX2_hasCall_66 (by decide) ?_
            refine j_callS1 c kw_X2_225 (sp_classAt σ k 2 hk (by decide)) dX2_hasCall_67 rfl rfl (by decide) (Nat.le_of_ble_eq_true rfl) ?_
            refine j_callV1 c kw_X2_72 (sp_has σ (nI (dg k 2)) (tn T) hX.1.1 hn.2) dX2_hasCall_70 rfl rfl (by decide) (Nat.le_of_ble_eq_true rfl) (Nat.le_of_ble_eq_true rfl) rfl rfl ?_
            rw [isN_nI (by omega)]
            refine j_if_eq c 80 dX2_hasCall_73 (by decide) (fun q2 => ?_) (fun q2 => ?_)
            · refine j_iconst c (nI 0) dX2_hasCall_80 (by decide) ?_
              exact j_iret c r dX2_hasCall_81 rfl (rtF (vcall_no (p := 2) hn.1 hpl.2 (by simpa using bI_z q2)))
            · refine j_iconst c (nI 1) dX2_hasCall_76 (by decide) ?_
              refine j_goto c 81 dX2_hasCall_77 (by decide) ?_
              exact j_iret c r dX2_hasCall_81 rfl (rtT (by simp only [vcall, bI_nz q0, bI_nz q1, bI_nz q2, decide_eq_true e]; rfl))
      · rw [nI_ltI hk (by omega)] at e
        refine j_iconst c (nI 0) dX2_hasCall_29 (by decide) ?_
        exact j_iret c r dX2_hasCall_30 rfl (rtF (by simp [vcall, e]))
/-- a question's end, of the class's object -/
def qX (T : TS) (σ : Sg) (v : Int32) : Option PV → Sg → Prop := nX T σ v
theorem sp_isX {T : TS} {σ : Sg} (hX : InvX T σ) (hW : WF T) (x y : Int32) : Sp yX2_is cX2_is 3 (some .boolean) 1 [.inr 0, .inl x, .inl y] σ (rt σ (.inl (bI (aIs T x y)))) := by
  have hn := hW.1
  refine Sp.intro rfl (Nat.le_of_ble_eq_true rfl) (fun Γ c r => ?_)
  show J Γ 0 [some (.inr 0), some (.inl x), some (.inl y)] [] σ
  refine j_aload_n c dX2_is_0 rfl ?_
  refine j_getR c fl_X2_12 dX2_is_1 (Nat.le_of_ble_eq_true rfl) rfl rfl ?_
  refine j_iload_n c dX2_is_4 rfl ?_
  refine j_callV1 c kw_X2_72 (sp_has σ x (tn T) hX.1.1 hn.2) dX2_is_5 rfl rfl (by decide) (Nat.le_of_ble_eq_true rfl) (Nat.le_of_ble_eq_true rfl) rfl rfl ?_
  refine j_if_eq c 38 dX2_is_8 (by decide) (fun e => ?_) (fun e => ?_)
  · refine j_iconst c (nI 0) dX2_is_38 (by decide) ?_
    exact j_iret c r dX2_is_39 rfl (rtF (by simp [aIs, bI_z e]))
  · have e2 := bI_nz e
    refine j_aload_n c dX2_is_11 rfl ?_
    refine j_getR c fl_X2_12 dX2_is_12 (Nat.le_of_ble_eq_true rfl) rfl rfl ?_
    refine j_iload_n c dX2_is_15 rfl ?_
    refine j_callV1 c kw_X2_72 (sp_has σ y (tn T) hX.1.1 hn.2) dX2_is_16 rfl rfl (by decide) (Nat.le_of_ble_eq_true rfl) (Nat.le_of_ble_eq_true rfl) rfl rfl ?_
    refine j_if_eq c 38 dX2_is_19 (by decide) (fun g => ?_) (fun g => ?_)
    · refine j_iconst c (nI 0) dX2_is_38 (by decide) ?_
      exact j_iret c r dX2_is_39 rfl (rtF (by simp [aIs, bI_z g]))
    · have g2 := bI_nz g
      obtain ⟨i, hi, hi2, rfl⟩ := isN_of e2
      obtain ⟨j, hj, hj2, rfl⟩ := isN_of g2
      have ha : aIs T (nI i) (nI j) = up (tls T) i j := by unfold aIs; rw [e2, g2, nI_clamp hi2, nI_clamp hj2]; rfl
      rw [ha] at r
      refine j_aload_n c dX2_is_22 rfl ?_
      refine j_getR c fl_X2_12 dX2_is_23 (Nat.le_of_ble_eq_true rfl) rfl rfl ?_
      refine j_iload_n c dX2_is_26 rfl ?_
      refine j_iload_n c dX2_is_27 rfl ?_
      refine j_callV1 c kw_X2_76 (sp_isOne hX.1 hn.2 hi (by omega)) dX2_is_28 rfl rfl (by decide) (Nat.le_of_ble_eq_true rfl) (Nat.le_of_ble_eq_true rfl) rfl rfl ?_
      refine j_if_eq c 38 dX2_is_31 (by decide) (fun q => ?_) (fun q => ?_)
      · refine j_iconst c (nI 0) dX2_is_38 (by decide) ?_
        exact j_iret c r dX2_is_39 rfl (rtF (bI_z q))
      · refine j_iconst c (nI 1) dX2_is_34 (by decide) ?_
        refine j_goto c 39 dX2_is_35 (by decide) ?_
        exact j_iret c r dX2_is_39 rfl (rtT (bI_nz q))
theorem sp_listX {T : TS} {σ : Sg} (hX : InvX T σ) (hW : WF T) (x k : Int32) : Sp yX2_list cX2_list 4 (some .int) 1 [.inr 0, .inl x, .inl k] σ (rt σ (.inl (aList T x k))) := by
  have hn := hW.1
  refine Sp.intro rfl (Nat.le_of_ble_eq_true rfl) (fun Γ c r => ?_)
  show J Γ 0 [some (.inr 0), some (.inl x), some (.inl k), none] [] σ
  refine j_aload_n c dX2_list_0 rfl ?_
  refine j_getR c fl_X2_12 dX2_list_1 (Nat.le_of_ble_eq_true rfl) rfl rfl ?_
  refine j_iload_n c dX2_list_4 rfl ?_
  refine j_callV1 c kw_X2_72 (sp_has σ x (tn T) hX.1.1 hn.2) dX2_list_5 rfl rfl (by decide) (Nat.le_of_ble_eq_true rfl) (Nat.le_of_ble_eq_true rfl) rfl rfl ?_
  refine j_if_ne c 13 dX2_list_8 (by decide) (fun e => ?_) (fun e => ?_)
  · have e2 := bI_nz e
    obtain ⟨i, hi, hi2, rfl⟩ := isN_of e2
    have hl := hW.len hi
    have ha : aList T (nI i) k = (if k = -1 then nI (tls T i).length else if isN k (tls T i).length then nI ((tls T i).getD k.toNatClampNeg 0) else -1) := by unfold aList; rw [e2, nI_clamp hi2]; rfl
    rw [ha] at r
    refine j_aload_n c dX2_list_13 rfl ?_
    refine j_getR c fl_X2_12 dX2_list_14 (Nat.le_of_ble_eq_true rfl) rfl rfl ?_
    refine j_getR c fl_X2_80 dX2_list_17 (Nat.le_of_ble_eq_true rfl) rfl rfl ?_
    refine j_iload_n c dX2_list_20 rfl ?_
    refine j_iald c dX2_list_21 (Nat.le_of_ble_eq_true rfl) rfl rfl (by omega) (by decide) ?_
    rw [hX.1.2.2.2.2.1 i hi]
    refine j_istore_n c dX2_list_22 (Nat.le_of_ble_eq_true rfl) rfl ?_
    refine j_iload_n c dX2_list_23 rfl ?_
    refine j_iconst c (-1) dX2_list_24 (by decide) ?_
    refine j_icmp_ne c 30 dX2_list_25 (by decide) (fun g => ?_) (fun g => ?_)
    · refine j_iload_n c dX2_list_30 rfl ?_
      refine j_if_lt c 56 dX2_list_31 (by decide) (fun q => ?_) (fun q => ?_)
      · refine j_iconst c (-1) dX2_list_56 (by decide) ?_
        exact j_iret c r dX2_list_57 rfl ⟨by rw [if_neg g, isN_neg q]; rfl, rfl⟩
      · obtain ⟨j, hj2, rfl⟩ := nI_of q
        refine j_iload_n c dX2_list_34 rfl ?_
        refine j_iload_n c dX2_list_35 rfl ?_
        refine j_icmp_ge c 56 dX2_list_36 (by decide) (fun u => ?_) (fun u => ?_)
        · rw [nI_leI (by omega) hj2] at u
          refine j_iconst c (-1) dX2_list_56 (by decide) ?_
          exact j_iret c r dX2_list_57 rfl ⟨by rw [if_neg g, isN_nI hj2, decide_eq_false (by omega)]; rfl, rfl⟩
        · rw [nI_leI (by omega) hj2] at u
          have hg : (tls T i)[j]? = some ((tls T i).getD j 0) := by simp [show j < (tls T i).length by omega]
          refine j_aload_n c dX2_list_39 rfl ?_
          refine j_getR c fl_X2_12 dX2_list_40 (Nat.le_of_ble_eq_true rfl) rfl rfl ?_
          refine j_getR c fl_X2_83 dX2_list_43 (Nat.le_of_ble_eq_true rfl) rfl rfl ?_
          refine j_bipush c (nI 16) dX2_list_46 (by decide) ?_
          refine j_iload_n c dX2_list_48 rfl ?_
          refine j_imul c _ dX2_list_49 (by first | exact pk_mul _ _ | rfl) ?_
          refine j_iload_n c dX2_list_50 rfl ?_
          refine j_iadd c _ dX2_list_51 (by first | exact nI_add _ _ | rfl) ?_
          refine j_iald c dX2_list_52 (by first | exact (Nat.le_of_ble_eq_true rfl) | exact hp.lt (by decide)) (by first | exact lf1 hp | exact lf2 hp | exact lf3 hp | exact lf4 hp | exact lf5 hp | exact lf6 hp | rfl) rfl (by omega) (by decide) ?_
          rw [hX.1.2.2.2.1 i hi j _ hg]
          refine j_goto c 57 dX2_list_53 (by decide) ?_
          exact j_iret c r dX2_list_57 rfl ⟨by rw [if_neg g, isN_nI hj2, decide_eq_true (by omega), nI_clamp hj2]; rfl, rfl⟩
    · refine j_iload_n c dX2_list_28 rfl ?_
      exact j_iret c r dX2_list_29 rfl ⟨by rw [if_pos g], rfl⟩
  · refine j_iconst c (-1) dX2_list_11 (by decide) ?_
    exact j_iret c r dX2_list_12 rfl ⟨by simp [aList, bI_z e], rfl⟩
theorem meet_eq {T : TS} (hW : WF T) {x : Int32} {a i j : Nat} (ha : a < tn T) (hx : ∀ d, d < 32 → bt x d = up (tls T) a d) : (x &&& mkS (fun y => up (tls T) y i && up (tls T) y j) (tn T)) = nI 1 <<< (nI a &&& 31) ↔ meB (tls T) (tn T) a i j = true := by
  have hn := hW.1
  have haa : up (tls T) a a = true := by unfold up; simp [(hW.2.1 a ha).2.1]
  have key : ∀ d, d < 32 → bt (x &&& mkS (fun y => up (tls T) y i && up (tls T) y j) (tn T)) d = (up (tls T) a d && (decide (d < tn T) && (up (tls T) d i && up (tls T) d j))) := fun d hd => by rw [bt_and, hx d hd, bt_mkS _ (by omega)]
  constructor
  · intro h
    have h1 : ∀ d, d < 32 → (up (tls T) a d && (decide (d < tn T) && (up (tls T) d i && up (tls T) d j))) = decide (d = a) := fun d hd => by rw [← key d hd, h, bt_one (by omega)]
    have h2 := h1 a (by omega)
    rw [haa] at h2
    simp [ha] at h2
    unfold meB
    rw [h2.1, h2.2]
    simp only [Bool.true_and]
    refine allU.mpr (fun d hd => ?_)
    have h3 := h1 d (by omega)
    by_cases e : d = a
    · simp [e]
    · simp [hd, e] at h3
      cases e1 : up (tls T) a d with
      | false => simp
      | true =>
        cases e2 : up (tls T) d i with
        | false => simp
        | true => simp [h3 e1 e2]
  · intro h
    unfold meB at h
    simp only [Bool.and_eq_true] at h
    obtain ⟨h1, h2, h3⟩ := h
    have h4 := allU.mp h3
    apply bt_ext
    intro d hd
    rw [key d hd, bt_one (by omega)]
    by_cases e : d = a
    · subst e; simp [haa, h1, h2, ha]
    · by_cases hdn : d < tn T
      · have h5 := h4 d hdn
        simp only [Bool.or_eq_true, beq_iff_eq, e, false_or, Bool.not_eq_true'] at h5
        rcases h5 with h5 | h5 | h5 <;> simp [h5, e]
      · simp [hdn, e]
theorem sp_meetX {T : TS} {σ : Sg} (hX : InvX T σ) (hW : WF T) (x y k : Int32) : Sp yX2_meet cX2_meet 7 (some .int) 2 [.inr 0, .inl x, .inl y, .inl k] σ (rt σ (.inl (aMeet T x y k))) := by
  have hn := hW.1
  refine Sp.intro rfl (Nat.le_of_ble_eq_true rfl) (fun Γ c r => ?_)
  show J Γ 0 [some (.inr 0), some (.inl x), some (.inl y), some (.inl k), none, none, none] [] σ
  refine j_aload_n c dX2_meet_0 rfl ?_
  refine j_getR c fl_X2_12 dX2_meet_1 (Nat.le_of_ble_eq_true rfl) rfl rfl ?_
  refine j_iload_n c dX2_meet_4 rfl ?_
  refine j_callV1 c kw_X2_72 (sp_has σ x (tn T) hX.1.1 hn.2) dX2_meet_5 rfl rfl (by decide) (Nat.le_of_ble_eq_true rfl) (Nat.le_of_ble_eq_true rfl) rfl rfl ?_
  refine j_if_eq c 22 dX2_meet_8 (by decide) (fun e => ?_) (fun e => ?_)
  · refine j_iconst c (-1) dX2_meet_22 (by decide) ?_
    exact j_iret c r dX2_meet_23 rfl ⟨by simp [aMeet, bI_z e], rfl⟩
  · have e2 := bI_nz e
    refine j_aload_n c dX2_meet_11 rfl ?_
    refine j_getR c fl_X2_12 dX2_meet_12 (Nat.le_of_ble_eq_true rfl) rfl rfl ?_
    refine j_iload_n c dX2_meet_15 rfl ?_
    refine j_callV1 c kw_X2_72 (sp_has σ y (tn T) hX.1.1 hn.2) dX2_meet_16 rfl rfl (by decide) (Nat.le_of_ble_eq_true rfl) (Nat.le_of_ble_eq_true rfl) rfl rfl ?_
    refine j_if_ne c 24 dX2_meet_19 (by decide) (fun g => ?_) (fun g => ?_)
    · have g2 := bI_nz g
      obtain ⟨i, hi, hi2, rfl⟩ := isN_of e2
      obtain ⟨j, hj, hj2, rfl⟩ := isN_of g2
      have ha : aMeet T (nI i) (nI j) k = kth (fun c => meB (tls T) (tn T) c i j) (tn T) k := by unfold aMeet; rw [e2, g2, nI_clamp hi2, nI_clamp hj2]; rfl
      rw [ha] at r
      generalize hP : (fun c => meB (tls T) (tn T) c i j) = P at r
      refine j_aload_n c dX2_meet_24 rfl ?_
      refine j_getR c fl_X2_12 dX2_meet_25 (Nat.le_of_ble_eq_true rfl) rfl rfl ?_
      refine j_iload_n c dX2_meet_28 rfl ?_
      refine j_iload_n c dX2_meet_29 rfl ?_
      refine j_callV1 c kw_X2_86 (sp_thatAreBoth hX.1 hn.2 hi hj) dX2_meet_30 rfl rfl (by decide) (Nat.le_of_ble_eq_true rfl) (Nat.le_of_ble_eq_true rfl) rfl rfl ?_
      refine j_istore c dX2_meet_33 (Nat.le_of_ble_eq_true rfl) rfl ?_
      refine j_iconst c (nI 0) dX2_meet_35 (by decide) ?_
      refine j_istore c dX2_meet_36 (Nat.le_of_ble_eq_true rfl) rfl ?_
      refine j_iconst c (nI 0) dX2_meet_38 (by decide) ?_
      refine j_istore c dX2_meet_39 (Nat.le_of_ble_eq_true rfl) rfl ?_
      have key : ∀ n, n ≤ tn T → (∀ q, q < n → (P q && decide (nI (cnt P q) = k)) = false) → J Γ 41 [some (.inr 0), some (.inl (nI i)), some (.inl (nI j)), some (.inl k), some (.inl (mkS (fun x => up (tls T) x i && up (tls T) x j) (tn T))), some (.inl (nI (cnt P n))), some (.inl (nI n))] [] σ := by
        refine loopN _ ?_ ?_
        · intro h0
          refine j_iload c dX2_meet_41 rfl ?_
          refine j_aload_n c dX2_meet_43 rfl ?_
          refine j_getR c fl_X2_12 dX2_meet_44 (Nat.le_of_ble_eq_true rfl) rfl rfl ?_
          refine j_getI c fl_X2_57 dX2_meet_47 (Nat.le_of_ble_eq_true rfl) rfl rfl ?_
          rw [hX.1.1]
          refine j_icmp_ge c 91 dX2_meet_50 (by decide) (fun _ => ?_) (fun h_9 => absurd (nI_le (Nat.le_refl _) (by omega)) h_9)
          refine j_iload_n c dX2_meet_91 rfl ?_
          refine j_iconst c (-1) dX2_meet_92 (by decide) ?_
          refine j_icmp_ne c 101 dX2_meet_93 (by decide) (fun q => ?_) (fun q => ?_)
          · refine j_iconst c (-1) dX2_meet_101 (by decide) ?_
            exact j_iret c r dX2_meet_102 rfl ⟨by rw [kth_no h0, if_neg q], rfl⟩
          · refine j_iload c dX2_meet_96 rfl ?_
            refine j_goto c 102 dX2_meet_98 (by decide) ?_
            exact j_iret c r dX2_meet_102 rfl ⟨by rw [kth_no h0, if_pos q], rfl⟩
        · intro n hn1 ih h0
          refine j_iload c dX2_meet_41 rfl ?_
          refine j_aload_n c dX2_meet_43 rfl ?_
          refine j_getR c fl_X2_12 dX2_meet_44 (Nat.le_of_ble_eq_true rfl) rfl rfl ?_
          refine j_getI c fl_X2_57 dX2_meet_47 (Nat.le_of_ble_eq_true rfl) rfl rfl ?_
          rw [hX.1.1]
          refine j_icmp_ge c 91 dX2_meet_50 (by decide) (fun h_9 => absurd h_9 (nI_ge hn1 (by omega))) (fun _ => ?_)
          refine j_aload_n c dX2_meet_53 rfl ?_
          refine j_getR c fl_X2_12 dX2_meet_54 (Nat.le_of_ble_eq_true rfl) rfl rfl ?_
          refine j_getR c fl_X2_90 dX2_meet_57 (Nat.le_of_ble_eq_true rfl) rfl rfl ?_
          refine j_iload c dX2_meet_60 rfl ?_
          refine j_iald c dX2_meet_62 (Nat.le_of_ble_eq_true rfl) rfl rfl (by omega) (by decide) ?_
          refine j_iload c dX2_meet_63 rfl ?_
          refine j_iand c _ dX2_meet_65 rfl ?_
          refine j_iconst c (nI 1) dX2_meet_66 (by decide) ?_
          refine j_iload c dX2_meet_67 rfl ?_
          refine j_ishl c _ dX2_meet_69 rfl ?_
          refine j_icmp_ne c 85 dX2_meet_70 (by decide) (fun q => ?_) (fun q => ?_)
          · rw [meet_eq hW hn1 (hX.1.2.1 n hn1)] at q
            have hp : P n = false := by rw [← hP]; simpa using q
            have e1 : cnt P (n + 1) = cnt P n := by simp [cnt, hp]
            rw [e1] at ih
            refine j_iinc c _ dX2_meet_85 rfl (by first | exact nI_1 _ | exact pk_m1 _ | rfl) rfl ?_
            refine j_goto c 41 dX2_meet_88 (by decide) ?_
            refine ih (fun q hq => ?_)
            by_cases eq : q = n
            · subst eq; simp [hp]
            · exact h0 q (by omega)
          · rw [meet_eq hW hn1 (hX.1.2.1 n hn1)] at q
            have hp : P n = true := by rw [← hP]; exact q
            refine j_iload c dX2_meet_73 rfl ?_
            refine j_iload_n c dX2_meet_75 rfl ?_
            refine j_icmp_ne c 82 dX2_meet_76 (by decide) (fun u => ?_) (fun u => ?_)
            · have e1 : cnt P (n + 1) = cnt P n + 1 := by simp [cnt, hp]
              rw [e1] at ih
              refine j_iinc c _ dX2_meet_82 rfl (by first | exact nI_1 _ | exact pk_m1 _ | rfl) rfl ?_
              refine j_iinc c _ dX2_meet_85 rfl (by first | exact nI_1 _ | exact pk_m1 _ | rfl) rfl ?_
              refine j_goto c 41 dX2_meet_88 (by decide) ?_
              refine ih (fun q hq => ?_)
              by_cases eq : q = n
              · subst eq; simp [u]
              · exact h0 q (by omega)
            · refine j_iload c dX2_meet_79 rfl ?_
              exact j_iret c r dX2_meet_81 rfl ⟨by rw [kth_hit hn1 hp u h0], rfl⟩
      exact key 0 (Nat.zero_le _) (fun q hq => by omega)
    · refine j_iconst c (-1) dX2_meet_22 (by decide) ?_
      exact j_iret c r dX2_meet_23 rfl ⟨by simp [aMeet, bI_z g], rfl⟩
theorem sp_functionX {T : TS} {σ : Sg} (hX : InvX T σ) (hW : WF T) (p : Int32) : Sp yX2_function cX2_function 2 (some .int) 0 [.inr 0, .inl p] σ (nX (tFun T p) σ (aFun T p)) := by
  have h4 := hW.2.2.2.1
  refine Sp.intro rfl (Nat.le_of_ble_eq_true rfl) (fun Γ c r => ?_)
  show J Γ 0 [some (.inr 0), some (.inl p)] [] σ
  have bad : okFun T p = false → J Γ 18 [some (.inr 0), some (.inl p)] [] σ := by
    intro h
    refine j_iconst c (-1) dX2_function_18 (by decide) ?_
    exact j_iret c r dX2_function_19 rfl ⟨by simp [aFun, h], by simp only [tFun, h]; exact hX, frXo.rfl' σ⟩
  refine j_aload_n c dX2_function_0 rfl ?_
  refine j_getI c fl_X2_27 dX2_function_1 (Nat.le_of_ble_eq_true rfl) rfl rfl ?_
  refine j_iconst c (nI 4) dX2_function_4 (by decide) ?_
  rw [hX.2.1]
  refine j_icmp_ge c 18 dX2_function_5 (by decide) (fun e => ?_) (fun e => ?_)
  · rw [nI_leI (by decide) (by omega)] at e
    exact bad (by simp [okFun]; omega)
  · rw [nI_leI (by decide) (by omega)] at e
    refine j_iload_n c dX2_function_8 rfl ?_
    refine j_iconst c (nI 1) dX2_function_9 (by decide) ?_
    refine j_icmp_lt c 18 dX2_function_10 (by decide) (fun g => ?_) (fun g => ?_)
    · exact bad (by simp [okFun, decide_eq_false (Int32.not_le.mpr g)])
    · have g2 := Int32.not_lt.mp g
      refine j_iload_n c dX2_function_13 rfl ?_
      refine j_iconst c (nI 3) dX2_function_14 (by decide) ?_
      refine j_icmp_le c 20 dX2_function_15 (by decide) (fun q => ?_) (fun q => ?_)
      · have hok : okFun T p = true := by unfold okFun; simp [g2, q]; omega
        simp only [Int32.le_iff_toInt_le, nI_toInt (show 1 < 2 ^ 31 by decide), nI_toInt (show 3 < 2 ^ 31 by decide)] at g2 q
        obtain ⟨k, hk, hk2, rfl⟩ := isN_of (x := p) (n := 4) (by unfold isN; simp; omega)
        rw [nI_toInt hk2] at g2
        have ht : tFun T (nI k) = nFun T k := by simp [tFun, hok, nI_clamp hk2]
        have ha : aFun T (nI k) = nI (tnf T) := by simp [aFun, hok]
        rw [ht, ha] at r
        have hp : FnP (15 + 7 * tnf T) := FnP.of (by omega)
        refine j_aload_n c dX2_function_20 rfl ?_
        refine j_getR c fl_X2_18 dX2_function_21 (Nat.le_of_ble_eq_true rfl) rfl rfl ?_
        refine j_aload_n c dX2_function_24 rfl ?_
        refine j_getI c fl_X2_27 dX2_function_25 (Nat.le_of_ble_eq_true rfl) rfl rfl ?_
        rw [hX.2.1]
        refine j_aald c dX2_function_28 (Nat.le_of_ble_eq_true rfl) rfl rfl (by omega) (by decide) ?_
        refine j_iload_n c dX2_function_29 rfl ?_
        refine j_putI c fl_X2_93 dX2_function_30 hp.lt0 (lf0 hp) rfl ?_
        refine j_aload_n c dX2_function_33 rfl ?_
        refine j_dup c dX2_function_34 ?_
        refine j_getI c fl_X2_27 dX2_function_35 (Nat.le_of_ble_eq_true rfl) rfl rfl ?_
        rw [s2_np (by omega), hX.2.1]
        refine j_iconst c (nI 1) dX2_function_38 (by decide) ?_
        refine j_iadd c _ dX2_function_39 (by first | exact nI_add _ _ | rfl) ?_
        refine j_putI c fl_X2_27 dX2_function_40 (Nat.le_of_ble_eq_true rfl) rfl rfl ?_
        refine j_aload_n c dX2_function_43 rfl ?_
        refine j_getI c fl_X2_27 dX2_function_44 (Nat.le_of_ble_eq_true rfl) rfl rfl ?_
        rw [s2_at]
        refine j_iconst c (nI 1) dX2_function_47 (by decide) ?_
        refine j_isub c _ dX2_function_48 (show nI (tnf T + 1) - nI 1 = nI (tnf T) from nI_pred (tnf T)) ?_
        have sq : ∀ q, q ≠ 0 → q ≠ 15 + 7 * tnf T → s2 (s2 σ (15 + 7 * tnf T) 0 (nI k)) 0 3 (nI (tnf T + 1)) q = σ q := fun q h1 h2 => by rw [s2_np h1, s2_np h2]
        have s0 : ∀ j, j ≠ 3 → s2 (s2 σ (15 + 7 * tnf T) 0 (nI k)) 0 3 (nI (tnf T + 1)) 0 j = σ 0 j := fun j hj => by rw [s2_nk hj, s2_np (by omega)]
        have sp : ∀ j, j ≠ 0 → s2 (s2 σ (15 + 7 * tnf T) 0 (nI k)) 0 3 (nI (tnf T + 1)) (15 + 7 * tnf T) j = σ (15 + 7 * tnf T) j := fun j hj => by rw [s2_np (by omega), s2_nk hj]
        refine j_iret c r dX2_function_49 rfl ⟨rfl, ?_, fun q hq => sq q (by omega) (by omega)⟩
        obtain ⟨b1, b2, b3, b4, b5, b6, b7, b8, b9, b10⟩ := hX
        refine ⟨(b1.keep (fun q h1 h2 => sq q (by omega) (by omega))).same rfl rfl, s2_at _ _ _ _, by rw [s0 4 (by decide)]; exact b3, by rw [s0 5 (by decide)]; exact b4, by rw [s0 6 (by decide)]; exact b5, fun f hf => ?_, fun f h1 h2 => ?_, fun f hf => ?_, fun f m t hf ht => ?_, ?_⟩
        · have hf' : f < tnf T + 1 := hf
          show FX (tn T) (tls T) (15 + 7 * f) (va_up (tpl T) (tnf T) k f) (va_up (ttg T) (tnf T) (fun _ => none) f) _
          by_cases ef : f = tnf T
          · subst ef
            rw [vu_at, vu_at]
            have h7 := b7 (tnf T) (Nat.le_refl _) (by omega)
            refine ⟨by rw [s2_np (by omega), s2_at], fun m hm => by rw [sp 1 (by decide), h7.1, bt_0]; rfl, fun m t h => (by cases h), fun q x hq hx m hm => ?_, fun m t h => (by cases h)⟩
            rw [sq _ (by omega) (by omega), h7.2 _ (by have := hW.1.2; omega), bt_0]
            rfl
          · rw [vu_ne ef, vu_ne ef]
            exact (b6 f (by omega)).keep (by rw [sq _ (by omega) (by omega)]) (by rw [sq _ (by omega) (by omega)]) (sq _ (by omega) (by omega)) (sq _ (by omega) (by omega)) (sq _ (by omega) (by omega))
        · have h1' : tnf T + 1 ≤ f := h1
          rw [sq _ (by omega) (by omega), sq (15 + 7 * f + 5) (by omega) (by omega)]
          exact b7 f (by omega) h2
        · by_cases ef : f = tnf T
          · subst ef
            exact (b8 _ hf).keep (sp 8 (by decide)) (sq _ (by omega) (by omega))
          · exact (b8 f hf).keep (by rw [sq _ (by omega) (by omega)]) (sq _ (by omega) (by omega))
        · have hf' : f < tnf T + 1 := hf
          have ht' : va_up (ttg T) (tnf T) (fun _ => none) f m = some t := ht
          rw [sq _ (by omega) (by omega), sq (15 + 7 * f + 3) (by omega) (by omega)]
          by_cases ef : f = tnf T
          · rw [ef, vu_at] at ht'; cases ht'
          · rw [vu_ne ef] at ht'; exact b9 f m t (by omega) ht'
        · rw [s0 10 (by decide), sq 13 (by decide) (by omega)]
          rcases b10 with h | ⟨f, hf, h1, h2⟩
          · exact Or.inl h
          · refine Or.inr ⟨f, Nat.lt_succ_of_lt hf, h1, fun x hx => ?_⟩
            have hx' : vcall (tn T) (va_up (tpl T) (tnf T) k f) x = true := hx
            show σ 13 x = ansI (tls T) (va_up (ttg T) (tnf T) (fun _ => none) f) (tru T) x
            rw [vu_ne (by omega)] at hx' ⊢
            exact h2 x hx'
      · exact bad (by simp [okFun, q])
theorem sp_ruleX {T : TS} {σ : Sg} (hX : InvX T σ) (hW : WF T) : Sp yX2_rule cX2_rule 2 (some .int) 0 [.inr 0] σ (nX (nRule T) σ (nI (1 - tru T))) := by
  have hru := hW.2.2.2.2.2.2.1
  have h4 := hW.2.2.2.1
  refine Sp.intro rfl (Nat.le_of_ble_eq_true rfl) (fun Γ c r => ?_)
  show J Γ 0 [some (.inr 0), none] [] σ
  refine j_aload_n c dX2_rule_0 rfl ?_
  refine j_iconst c (nI 1) dX2_rule_1 (by decide) ?_
  refine j_aload_n c dX2_rule_2 rfl ?_
  refine j_getI c fl_X2_31 dX2_rule_3 (Nat.le_of_ble_eq_true rfl) rfl rfl ?_
  rw [hX.2.2.1]
  refine j_isub c _ dX2_rule_6 (by first | exact pk_sub (by omega) | rfl) ?_
  refine j_putI c fl_X2_31 dX2_rule_7 (Nat.le_of_ble_eq_true rfl) rfl rfl ?_
  refine j_iconst c (nI 0) dX2_rule_10 (by decide) ?_
  refine j_istore_n c dX2_rule_11 (Nat.le_of_ble_eq_true rfl) rfl ?_
  have key : ∀ k, k ≤ tnf T → ∀ σ1 : Sg, (∀ q, q ≠ 0 → (∀ f, f < tnf T → q ≠ 15 + 7 * f) → σ1 q = σ q) → (∀ j, j ≠ 4 → σ1 0 j = σ 0 j) → σ1 0 4 = nI (1 - tru T) → (∀ f j, j ≠ 8 → f < tnf T → σ1 (15 + 7 * f) j = σ (15 + 7 * f) j) → (∀ f, f < k → σ1 (15 + 7 * f) 8 = nI 0) → J Γ 12 [some (.inr 0), some (.inl (nI k))] [] σ1 := by
    refine loopN _ ?_ ?_
    · intro σ1 h1 h2 h3 h4' h5
      refine j_iload_n c dX2_rule_12 rfl ?_
      refine j_aload_n c dX2_rule_13 rfl ?_
      refine j_getI c fl_X2_27 dX2_rule_14 (Nat.le_of_ble_eq_true rfl) rfl rfl ?_
      rw [h2 3 (by decide), hX.2.1]
      refine j_icmp_ge c 36 dX2_rule_17 (by decide) (fun _ => ?_) (fun h_9 => absurd (nI_le (Nat.le_refl _) (by omega)) h_9)
      refine j_aload_n c dX2_rule_36 rfl ?_
      refine j_iconst c (-1) dX2_rule_37 (by decide) ?_
      refine j_putI c fl_X2_50 dX2_rule_38 (Nat.le_of_ble_eq_true rfl) rfl rfl ?_
      refine j_aload_n c dX2_rule_41 rfl ?_
      refine j_getI c fl_X2_31 dX2_rule_42 (Nat.le_of_ble_eq_true rfl) rfl rfl ?_
      rw [s2_nk (by decide), h3]
      have sq : ∀ q, q ≠ 0 → (∀ f, f < tnf T → q ≠ 15 + 7 * f) → s2 σ1 0 10 (-1) q = σ q := fun q x1 x2 => by rw [s2_np x1]; exact h1 q x1 x2
      have s0 : ∀ j, j ≠ 4 → j ≠ 10 → s2 σ1 0 10 (-1) 0 j = σ 0 j := fun j x1 x2 => by rw [s2_nk x2]; exact h2 j x1
      refine j_iret c r dX2_rule_45 rfl ⟨rfl, ?_, fun q hq => sq q (by omega) (by omega)⟩
      obtain ⟨b1, b2, b3, b4, b5, b6, b7, b8, b9, b10⟩ := hX
      refine ⟨(b1.keep (fun q x1 x2 => sq q (by omega) (by omega))).same rfl rfl, by rw [s0 3 (by decide) (by decide)]; exact b2, by rw [s2_nk (by decide)]; exact h3, by rw [s0 5 (by decide) (by decide)]; exact b4, by rw [s0 6 (by decide) (by decide)]; exact b5, fun f hf => ?_, fun f x1 x2 => ?_, fun f hf => ?_, fun f m t hf ht => ?_, Or.inl (s2_at _ _ _ _)⟩
      · have hf' : f < tnf T := hf
        exact (b6 f hf).keep (by rw [s2_np (by omega)]; exact h4' f 0 (by decide) hf') (by rw [s2_np (by omega)]; exact h4' f 1 (by decide) hf') (sq _ (by omega) (by omega)) (sq _ (by omega) (by omega)) (sq _ (by omega) (by omega))
      · have x1' : tnf T ≤ f := x1
        rw [sq _ (by omega) (by omega), sq (15 + 7 * f + 5) (by omega) (by omega)]
        exact b7 f x1 x2
      · refine ⟨?_, fun k x hk => by have hk' : ([] : List Nat)[k]? = some x := hk; simp at hk'⟩
        show s2 σ1 0 10 (-1) (15 + 7 * f) 8 = nI 0
        rw [s2_np (by omega)]
        by_cases e : f < tnf T
        · exact h5 f e
        · rw [h1 _ (by omega) (by omega), (b8 f hf).1, (hW.2.2.2.2.2.2.2.1 f hf).2 (by omega)]
          rfl
      · have hf' : f < tnf T := hf
        rw [sq _ (by omega) (by omega), sq (15 + 7 * f + 3) (by omega) (by omega)]
        exact b9 f m t hf ht
    · intro k hk ih σ1 h1 h2 h3 h4' h5
      have hp : FnP (15 + 7 * k) := FnP.of (by omega)
      refine j_iload_n c dX2_rule_12 rfl ?_
      refine j_aload_n c dX2_rule_13 rfl ?_
      refine j_getI c fl_X2_27 dX2_rule_14 (Nat.le_of_ble_eq_true rfl) rfl rfl ?_
      rw [h2 3 (by decide), hX.2.1]
      refine j_icmp_ge c 36 dX2_rule_17 (by decide) (fun h_9 => absurd h_9 (nI_ge hk (by omega))) (fun _ => ?_)
      refine j_aload_n c dX2_rule_20 rfl ?_
      refine j_getR c fl_X2_18 dX2_rule_21 (Nat.le_of_ble_eq_true rfl) rfl rfl ?_
      refine j_iload_n c dX2_rule_24 rfl ?_
      refine j_aald c dX2_rule_25 (Nat.le_of_ble_eq_true rfl) rfl rfl (by omega) (by decide) ?_
      refine j_iconst c (nI 0) dX2_rule_26 (by decide) ?_
      refine j_putI c fl_X2_135 dX2_rule_27 hp.lt0 (lf0 hp) rfl ?_
      refine j_iinc c _ dX2_rule_30 rfl (by first | exact nI_1 _ | exact pk_m1 _ | rfl) rfl ?_
      refine j_goto c 12 dX2_rule_33 (by decide) ?_
      refine ih _ (fun q x1 x2 => by rw [s2_np (x2 k hk)]; exact h1 q x1 x2) (fun j hj => by rw [s2_np (by omega)]; exact h2 j hj) (by rw [s2_np (by omega)]; exact h3) (fun f j hj hf => ?_) (fun f hf => ?_)
      · by_cases e : f = k
        · subst e; rw [s2_nk hj]; exact h4' f j hj hf
        · rw [s2_np (by omega)]; exact h4' f j hj hf
      · by_cases e : f = k
        · subst e; rw [s2_at]
        · rw [s2_np (by omega)]; exact h5 f (by omega)
  refine key 0 (Nat.zero_le _) _ (fun q x1 _ => s2_np x1) (fun j hj => s2_nk hj) (s2_at _ _ _ _) (fun f j hj hf => by rw [s2_np (by omega)]) (fun f hf => by omega)
theorem sp_methodsOfAll {T : TS} {σ : Sg} (hX : InvX T σ) (hW : WF T) : Sp yX2_methodsOfAll cX2_methodsOfAll 3 (some .int) 1 [.inr 0] σ (rt σ (.inl (nI (sumN (mMany T) (tnf T))))) := by
  have h4 := hW.2.2.2.1
  refine Sp.intro rfl (Nat.le_of_ble_eq_true rfl) (fun Γ c r => ?_)
  show J Γ 0 [some (.inr 0), none, none] [] σ
  refine j_iconst c (nI 0) dX2_methodsOfAll_0 (by decide) ?_
  refine j_istore_n c dX2_methodsOfAll_1 (Nat.le_of_ble_eq_true rfl) rfl ?_
  refine j_iconst c (nI 0) dX2_methodsOfAll_2 (by decide) ?_
  refine j_istore_n c dX2_methodsOfAll_3 (Nat.le_of_ble_eq_true rfl) rfl ?_
  have key : ∀ f, f ≤ tnf T → J Γ 4 [some (.inr 0), some (.inl (nI (sumN (mMany T) f))), some (.inl (nI f))] [] σ := by
    refine loopN _ ?_ ?_
    · refine j_iload_n c dX2_methodsOfAll_4 rfl ?_
      refine j_aload_n c dX2_methodsOfAll_5 rfl ?_
      refine j_getI c fl_X2_27 dX2_methodsOfAll_6 (Nat.le_of_ble_eq_true rfl) rfl rfl ?_
      rw [hX.2.1]
      refine j_icmp_ge c 33 dX2_methodsOfAll_9 (by decide) (fun _ => ?_) (fun h_9 => absurd (nI_le (Nat.le_refl _) (by omega)) h_9)
      refine j_iload_n c dX2_methodsOfAll_33 rfl ?_
      exact j_iret c r dX2_methodsOfAll_34 rfl ⟨rfl, rfl⟩
    · intro f hf ih
      have hp : FnP (15 + 7 * f) := FnP.of (by omega)
      have hb := used_bits (hX.2.2.2.2.2.1 f hf).2.1 (fun m t h => (hW.2.2.2.2.2.1 f m t hf h).1)
      refine j_iload_n c dX2_methodsOfAll_4 rfl ?_
      refine j_aload_n c dX2_methodsOfAll_5 rfl ?_
      refine j_getI c fl_X2_27 dX2_methodsOfAll_6 (Nat.le_of_ble_eq_true rfl) rfl rfl ?_
      rw [hX.2.1]
      refine j_icmp_ge c 33 dX2_methodsOfAll_9 (by decide) (fun h_9 => absurd h_9 (nI_ge hf (by omega))) (fun _ => ?_)
      refine j_iload_n c dX2_methodsOfAll_12 rfl ?_
      refine j_aload_n c dX2_methodsOfAll_13 rfl ?_
      refine j_getR c fl_X2_18 dX2_methodsOfAll_14 (Nat.le_of_ble_eq_true rfl) rfl rfl ?_
      refine j_iload_n c dX2_methodsOfAll_17 rfl ?_
      refine j_aald c dX2_methodsOfAll_18 (Nat.le_of_ble_eq_true rfl) rfl rfl (by omega) (by decide) ?_
      refine j_getI c fl_X2_126 dX2_methodsOfAll_19 hp.lt0 (lf0 hp) rfl ?_
      refine j_callS1 c kw_X2_129 (sp_bitCount σ hb.1) dX2_methodsOfAll_22 rfl rfl (by decide) (Nat.le_of_ble_eq_true rfl) ?_
      rw [hb.2]
      refine j_iadd c _ dX2_methodsOfAll_25 (by first | exact nI_add _ _ | rfl) ?_
      refine j_istore_n c dX2_methodsOfAll_26 (Nat.le_of_ble_eq_true rfl) rfl ?_
      refine j_iinc c _ dX2_methodsOfAll_27 rfl (by first | exact nI_1 _ | exact pk_m1 _ | rfl) rfl ?_
      refine j_goto c 4 dX2_methodsOfAll_30 (by decide) ?_
      exact ih
  exact key 0 (Nat.zero_le _)
theorem sp_keptOfAll {T : TS} {σ : Sg} (hX : InvX T σ) (hW : WF T) : Sp yX2_keptOfAll cX2_keptOfAll 3 (some .int) 0 [.inr 0] σ (rt σ (.inl (nI (sumN (fun f => (tkp T f).length) (tnf T))))) := by
  have h4 := hW.2.2.2.1
  refine Sp.intro rfl (Nat.le_of_ble_eq_true rfl) (fun Γ c r => ?_)
  show J Γ 0 [some (.inr 0), none, none] [] σ
  refine j_iconst c (nI 0) dX2_keptOfAll_0 (by decide) ?_
  refine j_istore_n c dX2_keptOfAll_1 (Nat.le_of_ble_eq_true rfl) rfl ?_
  refine j_iconst c (nI 0) dX2_keptOfAll_2 (by decide) ?_
  refine j_istore_n c dX2_keptOfAll_3 (Nat.le_of_ble_eq_true rfl) rfl ?_
  have key : ∀ f, f ≤ tnf T → J Γ 4 [some (.inr 0), some (.inl (nI (sumN (fun f => (tkp T f).length) f))), some (.inl (nI f))] [] σ := by
    refine loopN _ ?_ ?_
    · refine j_iload_n c dX2_keptOfAll_4 rfl ?_
      refine j_aload_n c dX2_keptOfAll_5 rfl ?_
      refine j_getI c fl_X2_27 dX2_keptOfAll_6 (Nat.le_of_ble_eq_true rfl) rfl rfl ?_
      rw [hX.2.1]
      refine j_icmp_ge c 30 dX2_keptOfAll_9 (by decide) (fun _ => ?_) (fun h_9 => absurd (nI_le (Nat.le_refl _) (by omega)) h_9)
      refine j_iload_n c dX2_keptOfAll_30 rfl ?_
      exact j_iret c r dX2_keptOfAll_31 rfl ⟨rfl, rfl⟩
    · intro f hf ih
      have hp : FnP (15 + 7 * f) := FnP.of (by omega)
      refine j_iload_n c dX2_keptOfAll_4 rfl ?_
      refine j_aload_n c dX2_keptOfAll_5 rfl ?_
      refine j_getI c fl_X2_27 dX2_keptOfAll_6 (Nat.le_of_ble_eq_true rfl) rfl rfl ?_
      rw [hX.2.1]
      refine j_icmp_ge c 30 dX2_keptOfAll_9 (by decide) (fun h_9 => absurd h_9 (nI_ge hf (by omega))) (fun _ => ?_)
      refine j_iload_n c dX2_keptOfAll_12 rfl ?_
      refine j_aload_n c dX2_keptOfAll_13 rfl ?_
      refine j_getR c fl_X2_18 dX2_keptOfAll_14 (Nat.le_of_ble_eq_true rfl) rfl rfl ?_
      refine j_iload_n c dX2_keptOfAll_17 rfl ?_
      refine j_aald c dX2_keptOfAll_18 (Nat.le_of_ble_eq_true rfl) rfl rfl (by omega) (by decide) ?_
      refine j_getI c fl_X2_135 dX2_keptOfAll_19 hp.lt0 (lf0 hp) rfl ?_
      rw [(hX.2.2.2.2.2.2.2.1 f (by omega)).1]
      refine j_iadd c _ dX2_keptOfAll_22 (by first | exact nI_add _ _ | rfl) ?_
      refine j_istore_n c dX2_keptOfAll_23 (Nat.le_of_ble_eq_true rfl) rfl ?_
      refine j_iinc c _ dX2_keptOfAll_24 rfl (by first | exact nI_1 _ | exact pk_m1 _ | rfl) rfl ?_
      refine j_goto c 4 dX2_keptOfAll_27 (by decide) ?_
      exact ih
  exact key 0 (Nat.zero_le _)
theorem sp_countX {T : TS} {σ : Sg} (hX : InvX T σ) (hW : WF T) (w : Int32) : Sp yX2_count cX2_count 2 (some .int) 2 [.inr 0, .inl w] σ (rt σ (.inl (aCountI T w))) := by
  refine Sp.intro rfl (Nat.le_of_ble_eq_true rfl) (fun Γ c r => ?_)
  show J Γ 0 [some (.inr 0), some (.inl w)] [] σ
  by_cases hw : isN w 7 = true
  · obtain ⟨k, hk7, hk2, rfl⟩ := isN_of hw
    have hr : aCountI T (nI k) = aCount T k := by simp [aCountI, hw, nI_clamp hk2]
    rw [hr] at r
    rcases (show k = 0 ∨ k = 1 ∨ k = 2 ∨ k = 3 ∨ k = 4 ∨ k = 5 ∨ k = 6 by omega) with rfl | rfl | rfl | rfl | rfl | rfl | rfl
    · refine j_iload_n c dX2_count_0 rfl ?_
      refine j_tableIn (off := 43) c 44 dX2_count_1 (by decide) (by decide) (by decide) (by decide) ?_
      refine j_aload_n c dX2_count_44 rfl ?_
      refine j_getR c fl_X2_12 dX2_count_45 (Nat.le_of_ble_eq_true rfl) rfl rfl ?_
      refine j_getI c fl_X2_57 dX2_count_48 (Nat.le_of_ble_eq_true rfl) rfl rfl ?_
      exact j_iret c r dX2_count_51 rfl ⟨by rw [hX.1.1]; rfl, rfl⟩
    · refine j_iload_n c dX2_count_0 rfl ?_
      refine j_tableIn (off := 51) c 52 dX2_count_1 (by decide) (by decide) (by decide) (by decide) ?_
      refine j_aload_n c dX2_count_52 rfl ?_
      refine j_getI c fl_X2_27 dX2_count_53 (Nat.le_of_ble_eq_true rfl) rfl rfl ?_
      exact j_iret c r dX2_count_56 rfl ⟨by rw [hX.2.1]; rfl, rfl⟩
    · refine j_iload_n c dX2_count_0 rfl ?_
      refine j_tableIn (off := 56) c 57 dX2_count_1 (by decide) (by decide) (by decide) (by decide) ?_
      refine j_aload_n c dX2_count_57 rfl ?_
      refine j_getI c fl_X2_31 dX2_count_58 (Nat.le_of_ble_eq_true rfl) rfl rfl ?_
      exact j_iret c r dX2_count_61 rfl ⟨by rw [hX.2.2.1]; rfl, rfl⟩
    · refine j_iload_n c dX2_count_0 rfl ?_
      refine j_tableIn (off := 61) c 62 dX2_count_1 (by decide) (by decide) (by decide) (by decide) ?_
      refine j_aload_n c dX2_count_62 rfl ?_
      refine j_callV1 c kw_X2_138 (sp_methodsOfAll hX hW) dX2_count_63 rfl rfl (by decide) (Nat.le_of_ble_eq_true rfl) (Nat.le_of_ble_eq_true rfl) rfl rfl ?_
      exact j_iret c r dX2_count_66 rfl ⟨rfl, rfl⟩
    · refine j_iload_n c dX2_count_0 rfl ?_
      refine j_tableIn (off := 66) c 67 dX2_count_1 (by decide) (by decide) (by decide) (by decide) ?_
      refine j_aload_n c dX2_count_67 rfl ?_
      refine j_getI c fl_X2_34 dX2_count_68 (Nat.le_of_ble_eq_true rfl) rfl rfl ?_
      exact j_iret c r dX2_count_71 rfl ⟨by rw [hX.2.2.2.1]; rfl, rfl⟩
    · refine j_iload_n c dX2_count_0 rfl ?_
      refine j_tableIn (off := 71) c 72 dX2_count_1 (by decide) (by decide) (by decide) (by decide) ?_
      refine j_aload_n c dX2_count_72 rfl ?_
      refine j_getI c fl_X2_37 dX2_count_73 (Nat.le_of_ble_eq_true rfl) rfl rfl ?_
      exact j_iret c r dX2_count_76 rfl ⟨by rw [hX.2.2.2.2.1]; rfl, rfl⟩
    · refine j_iload_n c dX2_count_0 rfl ?_
      refine j_tableIn (off := 76) c 77 dX2_count_1 (by decide) (by decide) (by decide) (by decide) ?_
      refine j_aload_n c dX2_count_77 rfl ?_
      refine j_callV1 c kw_X2_141 (sp_keptOfAll hX hW) dX2_count_78 rfl rfl (by decide) (Nat.le_of_ble_eq_true rfl) (Nat.le_of_ble_eq_true rfl) rfl rfl ?_
      exact j_iret c r dX2_count_81 rfl ⟨rfl, rfl⟩
  · refine j_iload_n c dX2_count_0 rfl ?_
    refine j_tableOut c 82 dX2_count_1 (by simp [isN] at hw; omega) (by decide) ?_
    refine j_iconst c (-1) dX2_count_82 (by decide) ?_
    exact j_iret c r dX2_count_83 rfl ⟨by simp [aCountI, hw], rfl⟩
