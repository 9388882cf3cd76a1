-- ===== 20k: the class: fights =====
theorem and0 {x y : Int32} : (x &&& y) = 0 ↔ ∀ o, o < 32 → ¬ (bt x o = true ∧ bt y o = true) := by
  constructor
  · rintro h o ho ⟨h1, h2⟩
    have h3 : bt (x &&& y) o = false := by rw [h]; exact bt_0 o
    rw [bt_and, h1, h2] at h3
    cases h3
  · intro h
    have : (x &&& y) = nI 0 := bt_ext (fun o ho => by
      rw [bt_and, bt_0]
      cases h1 : bt x o with
      | false => rfl
      | true =>
        cases h2 : bt y o with
        | false => rfl
        | true => exact absurd ⟨h1, h2⟩ (h o ho))
    rw [this]; rfl
theorem bt_two {a b o : Nat} (ha : a < 32) (hb : b < 32) : bt ((nI 1 <<< (nI a &&& 31)) ||| (nI 1 <<< (nI b &&& 31))) o = (decide (o = a) || decide (o = b)) := by
  rw [bt_or, bt_one ha, bt_one hb]
theorem amB_two {ls : Nat → List Nat} {g : Nat → Option Nat} {a b ta tb m c : Nat} {x : Int32} (ha : a < 12) (hb : b < 12) (ea : g a = some ta) (eb : g b = some tb) (hx : ∀ o, bt x o = (decide (o = a) || decide (o = b))) : amB ls g x m = (befB ls g 0 c m a && befB ls g 0 c m b) := by
  unfold amB befB
  rw [ea, eb]
  cases hm : g m with
  | none => rfl
  | some t =>
    have e1 : appB ls g t a = le3 ls t ta := by unfold appB; rw [ea]; simp [show a < 13 by omega]
    have e2 : appB ls g t b = le3 ls t tb := by unfold appB; rw [eb]; simp [show b < 13 by omega]
    show (List.range 32).all (fun o => !bt x o || appB ls g t o) = (le3 ls t ta && le3 ls t tb)
    rw [Bool.eq_iff_iff, allU, Bool.and_eq_true]
    constructor
    · intro h
      have h1 := h a (by omega)
      have h2 := h b (by omega)
      rw [hx, e1] at h1
      rw [hx, e2] at h2
      simpa using And.intro h1 h2
    · rintro ⟨h1, h2⟩ o ho
      rw [hx]
      by_cases e : o = a
      · subst e; rw [e1, h1]; simp
      · by_cases e' : o = b
        · subst e'; rw [e2, h2]; simp
        · simp [e, e']
theorem sp_fightX {T : TS} {σ : Sg} (hX : InvX T σ) (hW : WF T) (f x y : Int32) : Sp yX2_fight cX2_fight 11 (some .int) 2 [.inr 0, .inl f, .inl x, .inl y] σ (rt σ (.inl (aFight T f x y))) := by
  have h4 := hW.2.2.2.1
  have hn := hW.1
  refine Sp.intro rfl (Nat.le_of_ble_eq_true rfl) (fun Γ c r => ?_)
  show J Γ 0 [some (.inr 0), some (.inl f), some (.inl x), some (.inl y), none, none, none, none, none, none, none] [] σ
  refine j_aload_n c dX2_fight_0 rfl ?_
  refine j_iload_n c dX2_fight_1 rfl ?_
  refine j_iload_n c dX2_fight_2 rfl ?_
  refine j_callV1 c kw_X2_120 (sp_hasMethod hX hW f x) dX2_fight_3 rfl rfl (by decide) (Nat.le_of_ble_eq_true rfl) (Nat.le_of_ble_eq_true rfl) rfl rfl ?_
  refine j_if_eq c 18 dX2_fight_6 (by decide) (fun e => ?_) (fun e => ?_)
  · have e2 := bI_z e
    unfold okDrop at e2
    refine j_iconst c (-1) dX2_fight_18 (by decide) ?_
    exact j_iret c r dX2_fight_19 rfl ⟨by simp only [aFight, e2, Bool.false_and]; rfl, rfl⟩
  · have e2 := bI_nz e
    unfold okDrop at e2
    refine j_aload_n c dX2_fight_9 rfl ?_
    refine j_iload_n c dX2_fight_10 rfl ?_
    refine j_iload_n c dX2_fight_11 rfl ?_
    refine j_callV1 c kw_X2_120 (sp_hasMethod hX hW f y) dX2_fight_12 rfl rfl (by decide) (Nat.le_of_ble_eq_true rfl) (Nat.le_of_ble_eq_true rfl) rfl rfl ?_
    refine j_if_ne c 20 dX2_fight_15 (by decide) (fun g => ?_) (fun g => ?_)
    · have g2 := bI_nz g
      unfold okDrop at g2
      simp only [Bool.and_eq_true] at e2 g2
      obtain ⟨i, hi, hi2, rfl⟩ := isN_of e2.1
      obtain ⟨a, ha, ha2, rfl⟩ := isN_of e2.2.1
      obtain ⟨b, hb, hb2, rfl⟩ := isN_of g2.2.1
      rw [nI_clamp hi2, nI_clamp ha2] at e2
      rw [nI_clamp hi2, nI_clamp hb2] at g2
      have hpl := hW.2.2.2.2.1 i hi
      have hp : FnP (15 + 7 * i) := FnP.of (by omega)
      have hF := hX.2.2.2.2.2.1 i hi
      have hG := GOK.of hW hi
      have hN := npow_b hn.2 hpl.2
      obtain ⟨ta, ea⟩ := Option.isSome_iff_exists.mp e2.2.2
      obtain ⟨tb, eb⟩ := Option.isSome_iff_exists.mp g2.2.2
      have hr : aFight T (nI i) (nI a) (nI b) = if a = b then -1 else oI ((fnd (fun j => fgB (tls T) (ttg T i) (ci (tn T) j) a b) (tn T ^ tpl T i)).map (ci (tn T))) := by
        unfold aFight
        rw [nI_clamp hi2, nI_clamp ha2, nI_clamp hb2, e2.1, e2.2.1, e2.2.2, g2.2.1, g2.2.2, ← fnd_ci hn.1 hn.2 hpl (fun c => fgB (tls T) (ttg T i) c a b)]
        by_cases eab : a = b
        · subst eab; simp
        · rw [if_neg eab]
          have : ¬ nI a = nI b := fun h => eab ((nI_eq ha2 hb2).mp h)
          simp [this]
      rw [hr] at r
      have hx2 : ∀ o, bt ((nI 1 <<< (nI a &&& 31)) ||| (nI 1 <<< (nI b &&& 31))) o = (decide (o = a) || decide (o = b)) := fun o => bt_two (by omega) (by omega)
      generalize hbo : (nI 1 <<< (nI a &&& 31)) ||| (nI 1 <<< (nI b &&& 31)) = both at hx2
      have ham : ∀ c m, amB (tls T) (ttg T i) both m = (befB (tls T) (ttg T i) 0 c m a && befB (tls T) (ttg T i) 0 c m b) := fun c m => amB_two ha hb ea eb hx2
      have hbA : ∀ m, bt (mkS (amB (tls T) (ttg T i) both) 12) m = (decide (m < 12) && amB (tls T) (ttg T i) both m) := bt_mkS _ (by decide)
      have bef : ∀ c m o t t', ttg T i m = some t → ttg T i o = some t' → befB (tls T) (ttg T i) 0 c m o = le3 (tls T) t t' := fun c m o t t' h1 h2 => by unfold befB; rw [h1, h2]; rfl
      refine j_aload_n c dX2_fight_20 rfl ?_
      refine j_getR c fl_X2_18 dX2_fight_21 (Nat.le_of_ble_eq_true rfl) rfl rfl ?_
      refine j_iload_n c dX2_fight_24 rfl ?_
      refine j_aald c dX2_fight_25 (Nat.le_of_ble_eq_true rfl) rfl rfl (by omega) (by decide) ?_
      refine j_astore c dX2_fight_26 (Nat.le_of_ble_eq_true rfl) rfl ?_
      refine j_iconst c (nI 1) dX2_fight_28 (by decide) ?_
      refine j_iload_n c dX2_fight_29 rfl ?_
      refine j_ishl c _ dX2_fight_30 rfl ?_
      refine j_iconst c (nI 1) dX2_fight_31 (by decide) ?_
      refine j_iload_n c dX2_fight_32 rfl ?_
      refine j_ishl c _ dX2_fight_33 rfl ?_
      refine j_ior c both dX2_fight_34 hbo ?_
      refine j_istore c dX2_fight_35 (Nat.le_of_ble_eq_true rfl) rfl ?_
      refine j_aload c dX2_fight_37 rfl ?_
      refine j_iload c dX2_fight_39 rfl ?_
      refine j_callV1 c kw_X2_206 (sp_atMostAllOf hp hF.2.1 hF.2.2.2.2 both) dX2_fight_41 rfl rfl (by decide) (Nat.le_of_ble_eq_true rfl) hp.lt0 (lf0 hp) rfl ?_
      refine j_istore c dX2_fight_44 (Nat.le_of_ble_eq_true rfl) rfl ?_
      refine j_iload c dX2_fight_46 rfl ?_
      refine j_iload c dX2_fight_48 rfl ?_
      refine j_iand c _ dX2_fight_50 rfl ?_
      refine j_if_eq c 56 dX2_fight_51 (by decide) (fun q => ?_) (fun q => ?_)
      · rw [and0] at q
        have na : ¬ (amB (tls T) (ttg T i) both a = true) := fun h => q a (by omega) ⟨by rw [hbA, h]; simp [ha], by rw [hx2]; simp⟩
        have nb : ¬ (amB (tls T) (ttg T i) both b = true) := fun h => q b (by omega) ⟨by rw [hbA, h]; simp [hb], by rw [hx2]; simp⟩
        have hab : a ≠ b := fun eab => by
          subst eab
          rw [ham 0 a, bef 0 a a ta ta ea ea, (hG a ta ea).2.2.1] at na
          exact na rfl
        rw [if_neg hab] at r
        refine j_aload_n c dX2_fight_56 rfl ?_
        refine j_aload c dX2_fight_57 rfl ?_
        refine j_callV1 c kw_X2_147 (sp_callCount hp hF.1 hX.1.1 hpl.2) dX2_fight_59 rfl rfl (by decide) (Nat.le_of_ble_eq_true rfl) (Nat.le_of_ble_eq_true rfl) rfl rfl ?_
        refine j_istore c dX2_fight_62 (Nat.le_of_ble_eq_true rfl) rfl ?_
        refine j_iconst c (nI 0) dX2_fight_64 (by decide) ?_
        refine j_istore c dX2_fight_65 (Nat.le_of_ble_eq_true rfl) rfl ?_
        refine j_iconst c (nI 0) dX2_fight_67 (by decide) ?_
        refine j_istore c dX2_fight_68 (Nat.le_of_ble_eq_true rfl) rfl ?_
        have key : ∀ j, j ≤ tn T ^ tpl T i → (∀ k, k < j → fgB (tls T) (ttg T i) (ci (tn T) k) a b = false) → ∀ u : Option PV, J Γ 70 [some (.inr 0), some (.inl (nI i)), some (.inl (nI a)), some (.inl (nI b)), some (.inr (15 + 7 * i)), some (.inl both), some (.inl (mkS (amB (tls T) (ttg T i) both) 12)), some (.inl (nI (tn T ^ tpl T i))), some (.inl (nI j)), some (.inl (nI (ci (tn T) j))), u] [] σ := by
          refine loopN _ ?_ ?_
          · intro h0 u
            refine j_iload c dX2_fight_70 rfl ?_
            refine j_iload c dX2_fight_72 rfl ?_
            refine j_icmp_ge c 124 dX2_fight_74 (by decide) (fun _ => ?_) (fun h_9 => absurd (nI_le (Nat.le_refl _) (by omega)) h_9)
            refine j_iconst c (-1) dX2_fight_124 (by decide) ?_
            exact j_iret c r dX2_fight_125 rfl ⟨by rw [fnd_no h0]; rfl, rfl⟩
          · intro j hj ih h0 u
            have hj3 := npow_lt hn.1 hpl.2 hj
            have hcl := ci_lt hn.1 hn.2 hj3
            have nxt : fgB (tls T) (ttg T i) (ci (tn T) j) a b = false → ∀ u : Option PV, J Γ 107 [some (.inr 0), some (.inl (nI i)), some (.inl (nI a)), some (.inl (nI b)), some (.inr (15 + 7 * i)), some (.inl both), some (.inl (mkS (amB (tls T) (ttg T i) both) 12)), some (.inl (nI (tn T ^ tpl T i))), some (.inl (nI j)), some (.inl (nI (ci (tn T) j))), u] [] σ := by
              intro h u
              refine j_iinc c _ dX2_fight_107 rfl (by first | exact nI_1 _ | exact pk_m1 _ | rfl) rfl ?_
              refine j_aload_n c dX2_fight_110 rfl ?_
              refine j_getR c fl_X2_12 dX2_fight_111 (Nat.le_of_ble_eq_true rfl) rfl rfl ?_
              refine j_iload c dX2_fight_114 rfl ?_
              refine j_callV1 c kw_X2_209 (sp_next hX.1.1 hn.1 hn.2 hj3) dX2_fight_116 rfl rfl (by decide) (Nat.le_of_ble_eq_true rfl) (Nat.le_of_ble_eq_true rfl) rfl rfl ?_
              refine j_istore c dX2_fight_119 (Nat.le_of_ble_eq_true rfl) rfl ?_
              refine j_goto c 70 dX2_fight_121 (by decide) ?_
              refine ih (fun k hk => ?_) _
              by_cases ek : k = j
              · subst ek; exact h
              · exact h0 k (by omega)
            have hSet : ∀ o, bt (mkS (appB (tls T) (ttg T i) (ci (tn T) j)) 13) o = appB (tls T) (ttg T i) (ci (tn T) j) o := fun o => bt_app
            refine j_iload c dX2_fight_70 rfl ?_
            refine j_iload c dX2_fight_72 rfl ?_
            refine j_icmp_ge c 124 dX2_fight_74 (by decide) (fun h_9 => absurd h_9 (nI_ge hj (by omega))) (fun _ => ?_)
            refine j_aload c dX2_fight_77 rfl ?_
            refine j_iload c dX2_fight_79 rfl ?_
            refine j_callV1 c kw_X2_186 (sp_thatApply hp hn.2 hF.2.2.2.1 hcl.1 hcl.2.1 hcl.2.2.1 hcl.2.2.2) dX2_fight_81 rfl rfl (by decide) (Nat.le_of_ble_eq_true rfl) hp.lt0 (lf0 hp) rfl ?_
            refine j_istore c dX2_fight_84 (Nat.le_of_ble_eq_true rfl) rfl ?_
            refine j_iload c dX2_fight_86 rfl ?_
            refine j_iload c dX2_fight_88 rfl ?_
            refine j_iand c _ dX2_fight_90 rfl ?_
            refine j_iload c dX2_fight_91 rfl ?_
            generalize mkS (appB (tls T) (ttg T i) (ci (tn T) j)) 13 = S at hSet
            refine j_icmp_ne c 107 dX2_fight_93 (by decide) (fun w => ?_) (fun w => ?_)
            · refine nxt ?_ _
              cases hfg : fgB (tls T) (ttg T i) (ci (tn T) j) a b with
              | false => rfl
              | true =>
                unfold fgB at hfg
                simp only [Bool.and_eq_true] at hfg
                refine absurd (bt_ext (fun o ho => ?_)) w
                rw [bt_and, hSet, hx2]
                by_cases eo : o = a
                · subst eo; rw [hfg.1]; simp
                · by_cases eo' : o = b
                  · subst eo'; rw [hfg.2.1]; simp
                  · simp [eo, eo']
            · have wa : appB (tls T) (ttg T i) (ci (tn T) j) a = true := by
                have h5 := congrArg (fun z => bt z a) w
                simp only [bt_and, hSet, hx2] at h5
                simpa using h5
              have wb : appB (tls T) (ttg T i) (ci (tn T) j) b = true := by
                have h5 := congrArg (fun z => bt z b) w
                simp only [bt_and, hSet, hx2] at h5
                simpa using h5
              refine j_iload c dX2_fight_96 rfl ?_
              refine j_iload c dX2_fight_98 rfl ?_
              refine j_iand c _ dX2_fight_100 rfl ?_
              refine j_if_ne c 107 dX2_fight_101 (by decide) (fun z => ?_) (fun z => ?_)
              · refine nxt ?_ _
                cases hfg : fgB (tls T) (ttg T i) (ci (tn T) j) a b with
                | false => rfl
                | true =>
                  unfold fgB at hfg
                  simp only [Bool.and_eq_true] at hfg
                  refine absurd (and0.mpr (fun o ho h => ?_)) z
                  rw [hSet, hbA, ham (ci (tn T) j) o] at h
                  simp only [Bool.and_eq_true, decide_eq_true_eq] at h
                  have h5 := allU.mp hfg.2.2 o h.2.1
                  rw [h.1, h.2.2.1, h.2.2.2] at h5
                  cases h5
              · refine j_iload c dX2_fight_104 rfl ?_
                exact j_iret c r dX2_fight_106 rfl ⟨by
                  rw [fnd_hit hj (by
                    unfold fgB
                    rw [wa, wb]
                    simp only [Bool.true_and]
                    refine allU.mpr (fun m hm => ?_)
                    rw [and0] at z
                    have h5 := z m (by omega)
                    rw [hSet, hbA, ham (ci (tn T) j) m, decide_eq_true hm, Bool.true_and, Bool.and_eq_true] at h5
                    cases h6 : appB (tls T) (ttg T i) (ci (tn T) j) m with
                    | false => rfl
                    | true =>
                      cases h7 : befB (tls T) (ttg T i) 0 (ci (tn T) j) m a with
                      | false => simp
                      | true =>
                        cases h8 : befB (tls T) (ttg T i) 0 (ci (tn T) j) m b with
                        | false => simp
                        | true => exact absurd ⟨h6, h7, h8⟩ h5) h0]
                  rfl, rfl⟩
        have k0 := key 0 (Nat.zero_le _) (fun k hk => by omega) none
        rw [ci_0] at k0
        exact k0
      · refine j_iconst c (-1) dX2_fight_54 (by decide) ?_
        refine j_iret c r dX2_fight_55 rfl (rt.mk ?_)
        congr 1
        by_cases eab : a = b
        · rw [if_pos eab]
        · rw [if_neg eab]
          have hno : ∀ j, j < tn T ^ tpl T i → fgB (tls T) (ttg T i) (ci (tn T) j) a b = false := fun j _ => by
            cases hfg : fgB (tls T) (ttg T i) (ci (tn T) j) a b with
            | false => rfl
            | true =>
              unfold fgB at hfg
              simp only [Bool.and_eq_true] at hfg
              refine absurd (and0.mpr (fun o ho h => ?_)) q
              rw [hx2, hbA, ham (ci (tn T) j) o] at h
              simp only [Bool.and_eq_true, Bool.or_eq_true, decide_eq_true_eq] at h
              have h5 := allU.mp hfg.2.2 o h.1.1
              have h6 : appB (tls T) (ttg T i) (ci (tn T) j) o = true := by
                rcases h.2 with e | e
                · rw [e]; exact hfg.1
                · rw [e]; exact hfg.2.1
              rw [h6, h.1.2.1, h.1.2.2] at h5
              cases h5
          rw [fnd_no hno]
          rfl
    · have g2 := bI_z g
      unfold okDrop at g2
      have hf : isN f (tnf T) = true := by simp only [Bool.and_eq_true] at e2; exact e2.1
      rw [hf, Bool.true_and] at g2
      refine j_iconst c (-1) dX2_fight_18 (by decide) ?_
      exact j_iret c r dX2_fight_19 rfl ⟨by simp only [aFight, g2, Bool.and_false, Bool.false_and]; rfl, rfl⟩
