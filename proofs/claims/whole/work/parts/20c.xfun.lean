-- ===== 20c: the class's functions: methods that come and go, kept calls =====
theorem fit_up {ls : Nat → List Nat} {g : Nat → Option Nat} {k t q a m : Nat} (hk : k < 13) : fitB ls (va_up g k (some t)) q a m = if m = k then up ls a (dg t q) else fitB ls g q a m := by
  unfold fitB
  by_cases e : m = k
  · subst e; rw [vu_at, if_pos rfl]; simp [hk]
  · rw [vu_ne e, if_neg e]
theorem fit_dn {ls : Nat → List Nat} {g : Nat → Option Nat} {k q a m : Nat} : fitB ls (va_up g k none) q a m = (fitB ls g q a m && !decide (m = k)) := by
  unfold fitB
  by_cases e : m = k
  · subst e; rw [vu_at]; simp
  · rw [vu_ne e]; simp [e]
theorem GOK.up {n pl : Nat} {ls : Nat → List Nat} {g : Nat → Option Nat} {k t : Nat} (h : GOK n pl ls g) (hk : k < 13) (hv : vcall n pl t = true) (hl : le3 ls t t = true) (hpl : pl ≤ 3) : GOK n pl ls (va_up g k (some t)) := fun m x hx => by
  by_cases e : m = k
  · subst e
    rw [vu_at] at hx
    cases hx
    have h2 := vcall_spec hv
    exact ⟨hk, hv, hl, h2.2.1, h2.2.2.1, h2.2.2.2, vcall_lt hv hpl⟩
  · rw [vu_ne e] at hx; exact h m x hx
theorem GOK.dn {n pl : Nat} {ls : Nat → List Nat} {g : Nat → Option Nat} {k : Nat} (h : GOK n pl ls g) : GOK n pl ls (va_up g k none) := fun m x hx => by
  by_cases e : m = k
  · subst e; rw [vu_at] at hx; cases hx
  · rw [vu_ne e] at hx; exact h m x hx
theorem sp_put {T : TS} {σ : Sg} {p pl : Nat} {g : Nat → Option Nat} (hp : FnP p) (hC : CX T σ) (hW : WF T) (hF : FX (tn T) (tls T) p pl g σ) (hG : GOK (tn T) pl (tls T) g) (hpl : pl ≤ 3) {k t : Nat} (hk : k < 13) (hg : g k = none) (hv : vcall (tn T) pl t = true) : Sp yX1_put cX1_put 6 none 3 [.inr p, .inl (nI k), .inl (nI t), .inr 1] σ (fun r σ' => r = none ∧ FX (tn T) (tls T) p pl (va_up g k (some t)) σ' ∧ (∀ q, q ≠ p → q ≠ p + 1 → q ≠ p + 4 → q ≠ p + 5 → σ' q = σ q) ∧ ∀ j, j ≠ 1 → σ' p j = σ p j) := by
  have hn := hW.1
  have ht := vcall_lt hv hpl
  have hvs := vcall_spec hv
  have hp15 : 15 ≤ p := by obtain ⟨i, hi, rfl⟩ := hp; omega
  have hlr := le3_refl hW hvs.2.1 hvs.2.2.1 hvs.2.2.2
  refine Sp.intro rfl (Nat.le_of_ble_eq_true rfl) (fun Γ c r => ?_)
  show J Γ 0 [some (.inr p), some (.inl (nI k)), some (.inl (nI t)), some (.inr 1), none, none] [] σ
  -- the rows of classes that fit
  have key : ∀ q, q ≤ 3 → ∀ (u : Option PV) (σ1 : Sg), (∀ x, x ≠ p → x ≠ p + 1 → x ≠ p + 5 → σ1 x = σ x) → (∀ j, j ≠ 1 → σ1 p j = σ p j) → (∀ m, m < 32 → bt (σ1 p 1) m = (va_up g k (some t) m).isSome) → (∀ m x, va_up g k (some t) m = some x → σ1 (p + 1) m = nI x) → (∀ q' a, q' < 3 → a < tn T → ∀ m, m < 32 → bt (σ1 (p + 5) (16 * q' + a)) m = if q' < q then fitB (tls T) (va_up g k (some t)) q' a m else fitB (tls T) g q' a m) → J Γ 22 [some (.inr p), some (.inl (nI k)), some (.inl (nI t)), some (.inr 1), some (.inl (nI q)), u] [] σ1 := by
    refine loopN 3 ?_ ?_
    · intro u σ1 f1 f2 f3 f4 f5
      refine j_iload c dX1_put_22 rfl ?_
      refine j_iconst c (nI 3) dX1_put_24 (by decide) ?_
      refine j_icmp_ge c 86 dX1_put_25 (by decide) (fun _ => ?_) (fun h_9 => absurd (nI_le (Nat.le_refl _) (by decide)) h_9)
      refine j_aload_n c dX1_put_86 rfl ?_
      have f5' : ∀ q c, q < 3 → c < tn T → ∀ m, m < 32 → bt (σ1 (p + 5) (16 * q + c)) m = fitB (tls T) (va_up g k (some t)) q c m := fun q a hq ha m hm => by rw [f5 q a hq ha m hm, if_pos hq]
      refine j_callV c kw_X1_53 (sp_orderMethods hp hn.2 (hG.up hk hv hlr hpl) f3 f4 f5') dX1_put_87 rfl rfl (by decide) (Nat.le_of_ble_eq_true rfl) hp.lt0 (lf0 hp) rfl ?_
      rintro _ σ2 ⟨rfl, o1, o2⟩
      exact j_ret c r dX1_put_90 ⟨rfl, ⟨by rw [o1 p (by omega), f2 0 (by decide)]; exact hF.1, by rw [o1 p (by omega)]; exact f3, by rw [o1 (p + 1) (by omega)]; exact f4, by rw [o1 (p + 5) (by omega)]; exact f5', o2⟩, fun q q1 q2 q3 q4 => by rw [o1 q q3]; exact f1 q q1 q2 q4, fun j hj => by rw [o1 p (by omega)]; exact f2 j hj⟩
    · intro q hq ih u σ1 f1 f2 f3 f4 f5
      refine j_iload c dX1_put_22 rfl ?_
      refine j_iconst c (nI 3) dX1_put_24 (by decide) ?_
      refine j_icmp_ge c 86 dX1_put_25 (by decide) (fun h_9 => absurd h_9 (nI_ge hq (by decide))) (fun _ => ?_)
      refine j_iconst c (nI 0) dX1_put_28 (by decide) ?_
      refine j_istore c dX1_put_29 (Nat.le_of_ble_eq_true rfl) rfl ?_
      have inner : ∀ a, a ≤ tn T → ∀ σ2 : Sg, (∀ x, x ≠ p + 5 → σ2 x = σ1 x) → (∀ q' b, q' < 3 → b < tn T → ∀ m, m < 32 → bt (σ2 (p + 5) (16 * q' + b)) m = if q' < q ∨ (q' = q ∧ b < a) then fitB (tls T) (va_up g k (some t)) q' b m else fitB (tls T) g q' b m) → J Γ 31 [some (.inr p), some (.inl (nI k)), some (.inl (nI t)), some (.inr 1), some (.inl (nI q)), some (.inl (nI a))] [] σ2 := by
        refine loopN _ ?_ ?_
        · intro σ2 g1 g2
          refine j_iload c dX1_put_31 rfl ?_
          refine j_aload_n c dX1_put_33 rfl ?_
          refine j_getI c fl_X1_44 dX1_put_34 (Nat.le_of_ble_eq_true rfl) rfl rfl ?_
          rw [g1 1 (by omega), f1 1 (by omega) (by omega) (by omega), hC.1]
          refine j_icmp_ge c 80 dX1_put_37 (by decide) (fun _ => ?_) (fun h_9 => absurd (nI_le (Nat.le_refl _) (by omega)) h_9)
          refine j_iinc c _ dX1_put_80 rfl (by first | exact nI_1 _ | exact pk_m1 _ | rfl) rfl ?_
          refine j_goto c 22 dX1_put_83 (by decide) ?_
          refine ih _ σ2 (fun x x1 x2 x3 => by rw [g1 x x3]; exact f1 x x1 x2 x3) (fun j hj => by rw [g1 p (by omega)]; exact f2 j hj) (by rw [g1 p (by omega)]; exact f3) (by rw [g1 (p + 1) (by omega)]; exact f4) (fun q' b h1 h2 m hm => ?_)
          rw [g2 q' b h1 h2 m hm]
          by_cases e : q' < q + 1
          · rw [if_pos e, if_pos (by omega)]
          · rw [if_neg e, if_neg (by omega)]
        · intro a ha iha σ2 g1 g2
          have hC2 : CX T σ2 := hC.keep (fun x h1 h2 => by rw [g1 x (by omega)]; exact f1 x (by omega) (by omega) (by omega))
          have dq := dg_lt t q
          refine j_iload c dX1_put_31 rfl ?_
          refine j_aload_n c dX1_put_33 rfl ?_
          refine j_getI c fl_X1_44 dX1_put_34 (Nat.le_of_ble_eq_true rfl) rfl rfl ?_
          rw [hC2.1]
          refine j_icmp_ge c 80 dX1_put_37 (by decide) (fun h_9 => absurd h_9 (nI_ge ha (by omega))) (fun _ => ?_)
          refine j_aload_n c dX1_put_40 rfl ?_
          refine j_iload c dX1_put_41 rfl ?_
          refine j_iload_n c dX1_put_43 rfl ?_
          refine j_iload c dX1_put_44 rfl ?_
          refine j_callSN1 c kw_X1_40 (sp_classAt σ2 t q (by omega) (by omega)) dX1_put_46 rfl rfl (by decide) (Nat.le_of_ble_eq_true rfl) ?_
          refine j_callV1 c kw_X1_49 (sp_isOne hC2 hn.2 ha (by omega)) dX1_put_49 rfl rfl (by decide) (Nat.le_of_ble_eq_true rfl) (Nat.le_of_ble_eq_true rfl) rfl rfl ?_
          refine j_if_eq c 74 dX1_put_52 (by decide) (fun e => ?_) (fun e => ?_)
          · refine j_iinc c _ dX1_put_74 rfl (by first | exact nI_1 _ | exact pk_m1 _ | rfl) rfl ?_
            refine j_goto c 31 dX1_put_77 (by decide) ?_
            refine iha σ2 g1 (fun q' b h1 h2 m hm => ?_)
            rw [g2 q' b h1 h2 m hm]
            by_cases e3 : q' = q ∧ b = a
            · obtain ⟨rfl, rfl⟩ := e3
              rw [if_neg (by omega), if_pos (by omega), fit_up hk]
              by_cases em : m = k
              · subst em
                rw [if_pos rfl, bI_z e]
                simp [fitB, hg]
              · rw [if_neg em]
            · by_cases e4 : q' < q ∨ (q' = q ∧ b < a)
              · rw [if_pos e4, if_pos (by omega)]
              · rw [if_neg e4, if_neg (by omega)]
          · refine j_aload_n c dX1_put_55 rfl ?_
            refine j_getR c fl_X1_31 dX1_put_56 hp.lt0 (lf0 hp) rfl ?_
            refine j_bipush c (nI 16) dX1_put_59 (by decide) ?_
            refine j_iload c dX1_put_61 rfl ?_
            refine j_imul c _ dX1_put_63 (by first | exact pk_mul _ _ | rfl) ?_
            refine j_iload c dX1_put_64 rfl ?_
            refine j_iadd c _ dX1_put_66 (by first | exact nI_add _ _ | rfl) ?_
            refine j_dup2 c dX1_put_67 ?_
            refine j_iald c dX1_put_68 (hp.lt (by decide)) (lf5 hp) rfl (by omega) (by decide) ?_
            refine j_iconst c (nI 1) dX1_put_69 (by decide) ?_
            refine j_iload_n c dX1_put_70 rfl ?_
            refine j_ishl c _ dX1_put_71 rfl ?_
            refine j_ior c _ dX1_put_72 rfl ?_
            refine j_iast c dX1_put_73 (hp.lt (by decide)) (lf5 hp) rfl (by omega) (by decide) ?_
            refine j_iinc c _ dX1_put_74 rfl (by first | exact nI_1 _ | exact pk_m1 _ | rfl) rfl ?_
            refine j_goto c 31 dX1_put_77 (by decide) ?_
            refine iha _ (fun x hx => by rw [s2_np hx]; exact g1 x hx) (fun q' b h1 h2 m hm => ?_)
            by_cases e3 : q' = q ∧ b = a
            · obtain ⟨rfl, rfl⟩ := e3
              rw [s2_at, bt_or, bt_one (by omega), g2 q' b h1 h2 m hm, if_neg (by omega), if_pos (by omega), fit_up hk]
              by_cases em : m = k
              · rw [if_pos em, bI_nz e]; simp [em]
              · rw [if_neg em]; simp [em]
            · rw [s2_nk (by omega), g2 q' b h1 h2 m hm]
              by_cases e4 : q' < q ∨ (q' = q ∧ b < a)
              · rw [if_pos e4, if_pos (by omega)]
              · rw [if_neg e4, if_neg (by omega)]
      refine inner 0 (Nat.zero_le _) σ1 (fun _ _ => rfl) (fun q' b h1 h2 m hm => ?_)
      rw [f5 q' b h1 h2 m hm]
      by_cases e : q' < q
      · rw [if_pos e, if_pos (Or.inl e)]
      · rw [if_neg e, if_neg (by omega)]
  refine j_aload_n c dX1_put_0 rfl ?_
  refine j_dup c dX1_put_1 ?_
  refine j_getI c fl_X1_15 dX1_put_2 hp.lt0 (lf0 hp) rfl ?_
  refine j_iconst c (nI 1) dX1_put_5 (by decide) ?_
  refine j_iload_n c dX1_put_6 rfl ?_
  refine j_ishl c _ dX1_put_7 rfl ?_
  refine j_ior c _ dX1_put_8 rfl ?_
  refine j_putI c fl_X1_15 dX1_put_9 hp.lt0 (lf0 hp) rfl ?_
  refine j_aload_n c dX1_put_12 rfl ?_
  refine j_getR c fl_X1_18 dX1_put_13 hp.lt0 (lf0 hp) rfl ?_
  refine j_iload_n c dX1_put_16 rfl ?_
  refine j_iload_n c dX1_put_17 rfl ?_
  refine j_iast c dX1_put_18 (hp.lt (by decide)) (lf1 hp) rfl (by omega) (by decide) ?_
  refine j_iconst c (nI 0) dX1_put_19 (by decide) ?_
  refine j_istore c dX1_put_20 (Nat.le_of_ble_eq_true rfl) rfl ?_
  refine key 0 (Nat.zero_le _) _ _ (fun x x1 x2 x3 => by rw [s2_np x2, s2_np x1]) (fun j hj => by rw [s2_np (by omega), s2_nk hj]) (fun m hm => ?_) (fun m x hx => ?_) (fun q' a h1 h2 m hm => ?_)
  · rw [s2_np (by omega), s2_at, bt_or, bt_one (by omega), hF.2.1 m hm]
    by_cases e : m = k
    · subst e; rw [vu_at]; simp
    · rw [vu_ne e]; simp [e]
  · by_cases e : m = k
    · subst e; rw [vu_at] at hx; cases hx; rw [s2_at]
    · rw [vu_ne e] at hx; rw [s2_nk e, s2_np (by omega)]; exact hF.2.2.1 m x hx
  · rw [s2_np (by omega), s2_np (by omega), if_neg (by omega)]; exact hF.2.2.2.1 q' a h1 h2 m hm
theorem sp_remove {T : TS} {σ : Sg} {p pl : Nat} {g : Nat → Option Nat} (hp : FnP p) (hW : WF T) (hF : FX (tn T) (tls T) p pl g σ) (hG : GOK (tn T) pl (tls T) g) {k : Nat} (hk : k < 13) : Sp yX1_remove cX1_remove 3 none 3 [.inr p, .inl (nI k)] σ (fun r σ' => r = none ∧ FX (tn T) (tls T) p pl (va_up g k none) σ' ∧ (∀ q, q ≠ p → q ≠ p + 4 → q ≠ p + 5 → σ' q = σ q) ∧ ∀ j, j ≠ 1 → σ' p j = σ p j) := by
  have hn := hW.1
  have hp15 : 15 ≤ p := by obtain ⟨i, hi, rfl⟩ := hp; omega
  refine Sp.intro rfl (Nat.le_of_ble_eq_true rfl) (fun Γ c r => ?_)
  show J Γ 0 [some (.inr p), some (.inl (nI k)), none] [] σ
  refine j_aload_n c dX1_remove_0 rfl ?_
  refine j_dup c dX1_remove_1 ?_
  refine j_getI c fl_X1_15 dX1_remove_2 hp.lt0 (lf0 hp) rfl ?_
  refine j_iconst c (nI 1) dX1_remove_5 (by decide) ?_
  refine j_iload_n c dX1_remove_6 rfl ?_
  refine j_ishl c _ dX1_remove_7 rfl ?_
  refine j_iconst c (-1) dX1_remove_8 (by decide) ?_
  refine j_ixor c _ dX1_remove_9 rfl ?_
  refine j_iand c _ dX1_remove_10 rfl ?_
  refine j_putI c fl_X1_15 dX1_remove_11 hp.lt0 (lf0 hp) rfl ?_
  refine j_iconst c (nI 0) dX1_remove_14 (by decide) ?_
  refine j_istore_n c dX1_remove_15 (Nat.le_of_ble_eq_true rfl) rfl ?_
  have key : ∀ j, j ≤ 48 → ∀ σ1 : Sg, (∀ x, x ≠ p → x ≠ p + 5 → σ1 x = σ x) → (∀ j, j ≠ 1 → σ1 p j = σ p j) → (∀ m, m < 32 → bt (σ1 p 1) m = (va_up g k none m).isSome) → (∀ i m, m < 32 → bt (σ1 (p + 5) i) m = (bt (σ (p + 5) i) m && (!decide (m = k) || !decide (i < j)))) → J Γ 16 [some (.inr p), some (.inl (nI k)), some (.inl (nI j))] [] σ1 := by
    refine loopN 48 ?_ ?_
    · intro σ1 f1 f2 f3 f5
      refine j_iload_n c dX1_remove_16 rfl ?_
      refine j_aload_n c dX1_remove_17 rfl ?_
      refine j_getR c fl_X1_31 dX1_remove_18 hp.lt0 (lf0 hp) rfl ?_
      refine j_alen c dX1_remove_21 (hp.lt (by decide)) (lf5 hp) ?_
      refine j_icmp_ge c 45 dX1_remove_22 (by decide) (fun _ => ?_) (fun h_9 => absurd (nI_le (Nat.le_refl _) (by decide)) h_9)
      refine j_aload_n c dX1_remove_45 rfl ?_
      have f5' : ∀ q c, q < 3 → c < tn T → ∀ m, m < 32 → bt (σ1 (p + 5) (16 * q + c)) m = fitB (tls T) (va_up g k none) q c m := fun q a hq ha m hm => by
        rw [f5 _ m hm, hF.2.2.2.1 q a hq ha m hm, fit_dn]
        simp [show 16 * q + a < 48 by omega]
      have f4' : ∀ m x, va_up g k none m = some x → σ1 (p + 1) m = nI x := fun m x hx => by
        rw [f1 (p + 1) (by omega) (by omega)]
        by_cases e : m = k
        · subst e; rw [vu_at] at hx; cases hx
        · rw [vu_ne e] at hx; exact hF.2.2.1 m x hx
      refine j_callV c kw_X1_53 (sp_orderMethods hp hn.2 (hG.dn (k := k)) f3 f4' f5') dX1_remove_46 rfl rfl (by decide) (Nat.le_of_ble_eq_true rfl) hp.lt0 (lf0 hp) rfl ?_
      rintro _ σ2 ⟨rfl, o1, o2⟩
      exact j_ret c r dX1_remove_49 ⟨rfl, ⟨by rw [o1 p (by omega), f2 0 (by decide)]; exact hF.1, by rw [o1 p (by omega)]; exact f3, by rw [o1 (p + 1) (by omega)]; exact f4', by rw [o1 (p + 5) (by omega)]; exact f5', o2⟩, fun q q1 q2 q3 => by rw [o1 q q2]; exact f1 q q1 q3, fun j hj => by rw [o1 p (by omega)]; exact f2 j hj⟩
    · intro j hj ih σ1 f1 f2 f3 f5
      refine j_iload_n c dX1_remove_16 rfl ?_
      refine j_aload_n c dX1_remove_17 rfl ?_
      refine j_getR c fl_X1_31 dX1_remove_18 hp.lt0 (lf0 hp) rfl ?_
      refine j_alen c dX1_remove_21 (hp.lt (by decide)) (lf5 hp) ?_
      refine j_icmp_ge c 45 dX1_remove_22 (by decide) (fun h_9 => absurd h_9 (nI_ge hj (by decide))) (fun _ => ?_)
      refine j_aload_n c dX1_remove_25 rfl ?_
      refine j_getR c fl_X1_31 dX1_remove_26 hp.lt0 (lf0 hp) rfl ?_
      refine j_iload_n c dX1_remove_29 rfl ?_
      refine j_dup2 c dX1_remove_30 ?_
      refine j_iald c dX1_remove_31 (hp.lt (by decide)) (lf5 hp) rfl (by omega) (by decide) ?_
      refine j_iconst c (nI 1) dX1_remove_32 (by decide) ?_
      refine j_iload_n c dX1_remove_33 rfl ?_
      refine j_ishl c _ dX1_remove_34 rfl ?_
      refine j_iconst c (-1) dX1_remove_35 (by decide) ?_
      refine j_ixor c _ dX1_remove_36 rfl ?_
      refine j_iand c _ dX1_remove_37 rfl ?_
      refine j_iast c dX1_remove_38 (hp.lt (by decide)) (lf5 hp) rfl (by omega) (by decide) ?_
      refine j_iinc c _ dX1_remove_39 rfl (by first | exact nI_1 _ | exact pk_m1 _ | rfl) rfl ?_
      refine j_goto c 16 dX1_remove_42 (by decide) ?_
      refine ih _ (fun x x1 x2 => by rw [s2_np x2]; exact f1 x x1 x2) (fun i hi => by rw [s2_np (by omega)]; exact f2 i hi) (by rw [s2_np (by omega)]; exact f3) (fun i m hm => ?_)
      by_cases e : i = j
      · subst e
        rw [s2_at, bt_and, bt_not _ hm, bt_one (by omega), f5 i m hm]
        simp
      · rw [s2_nk e, f5 i m hm]
        congr 1
        congr 1
        by_cases e2 : i < j
        · simp [e2, show i < j + 1 by omega]
        · simp [e2, show ¬ i < j + 1 by omega]
  refine key 0 (Nat.zero_le _) _ (fun x x1 x2 => by rw [s2_np x1]) (fun j hj => by rw [s2_nk hj]) (fun m hm => ?_) (fun i m hm => by rw [s2_np (by omega)]; simp)
  rw [s2_at, bt_and, bt_not _ hm, bt_one (by omega), hF.2.1 m hm]
  by_cases e : m = k
  · subst e; rw [vu_at]; simp
  · rw [vu_ne e]; simp [e]
theorem cpy_all {f g : Nat → Int32} {n j : Nat} (h : j < n) : va_cpy f g 0 0 n j = f j := by rw [pk_cpy_in (by omega) (by omega)]; simp
theorem sp_copyMethods {T : TS} {σ : Sg} {p pl : Nat} {g : Nat → Option Nat} (hp : FnP p) (hW : WF T) (hF : FX (tn T) (tls T) p pl g σ) (hG : GOK (tn T) pl (tls T) g) : Sp yX1_copyMethods cX1_copyMethods 2 none 1 [.inr 43, .inr p] σ (fun r σ' => r = none ∧ FX (tn T) (tls T) 43 pl g σ' ∧ ∀ q, q ≠ 43 → q ≠ 44 → q ≠ 47 → q ≠ 48 → σ' q = σ q) := by
  have hn := hW.1
  have hpb : p = 43 ∨ (p + 6 < 43) := by obtain ⟨i, hi, rfl⟩ := hp; omega
  refine Sp.intro rfl (Nat.le_of_ble_eq_true rfl) (fun Γ c r => ?_)
  show J Γ 0 [some (.inr 43), some (.inr p)] [] σ
  refine j_aload_n c dX1_copyMethods_0 rfl ?_
  refine j_aload_n c dX1_copyMethods_1 rfl ?_
  refine j_getI c fl_X1_9 dX1_copyMethods_2 hp.lt0 (lf0 hp) rfl ?_
  refine j_putI c fl_X1_9 dX1_copyMethods_5 FnP.trial.lt0 (lf0 FnP.trial) rfl ?_
  refine j_aload_n c dX1_copyMethods_8 rfl ?_
  refine j_aload_n c dX1_copyMethods_9 rfl ?_
  refine j_getI c fl_X1_15 dX1_copyMethods_10 hp.lt0 (lf0 hp) rfl ?_
  refine j_putI c fl_X1_15 dX1_copyMethods_13 FnP.trial.lt0 (lf0 FnP.trial) rfl ?_
  have e1 : s2 σ 43 0 (σ p 0) p 1 = σ p 1 := by
    rcases hpb with h | h
    · subst h; rw [s2_nk (by decide)]
    · rw [s2_np (by omega)]
  rw [e1]
  have q1 : ∀ x, x ≠ 43 → s2 (s2 σ 43 0 (σ p 0)) 43 1 (σ p 1) x = σ x := fun x hx => by rw [s2_np hx, s2_np hx]
  have q0 : s2 (s2 σ 43 0 (σ p 0)) 43 1 (σ p 1) 43 0 = σ p 0 := by rw [s2_nk (by decide), s2_at]
  have q11 : s2 (s2 σ 43 0 (σ p 0)) 43 1 (σ p 1) 43 1 = σ p 1 := s2_at _ _ _ _
  generalize s2 (s2 σ 43 0 (σ p 0)) 43 1 (σ p 1) = σ1 at q1 q0 q11 ⊢
  refine j_aload_n c dX1_copyMethods_16 rfl ?_
  refine j_getR c fl_X1_18 dX1_copyMethods_17 hp.lt0 (lf0 hp) rfl ?_
  refine j_iconst c (nI 0) dX1_copyMethods_20 (by decide) ?_
  refine j_aload_n c dX1_copyMethods_21 rfl ?_
  refine j_getR c fl_X1_18 dX1_copyMethods_22 FnP.trial.lt0 (lf0 FnP.trial) rfl ?_
  refine j_iconst c (nI 0) dX1_copyMethods_25 (by decide) ?_
  refine j_aload_n c dX1_copyMethods_26 rfl ?_
  refine j_getR c fl_X1_18 dX1_copyMethods_27 FnP.trial.lt0 (lf0 FnP.trial) rfl ?_
  refine j_alen c dX1_copyMethods_30 (FnP.trial.lt (by decide)) (lf1 FnP.trial) ?_
  refine j_copy c cp_X1_60 cp_nat cp_stat cp_init dX1_copyMethods_31 (hp.lt (by decide)) (FnP.trial.lt (by decide)) (lf1 hp) (lf1 FnP.trial) rfl rfl rfl (by decide) (by decide) (by decide) (by decide) (Nat.le_of_ble_eq_true rfl) (by decide) ?_
  refine j_aload_n c dX1_copyMethods_34 rfl ?_
  refine j_getR c fl_X1_28 dX1_copyMethods_35 hp.lt0 (lf0 hp) rfl ?_
  refine j_iconst c (nI 0) dX1_copyMethods_38 (by decide) ?_
  refine j_aload_n c dX1_copyMethods_39 rfl ?_
  refine j_getR c fl_X1_28 dX1_copyMethods_40 FnP.trial.lt0 (lf0 FnP.trial) rfl ?_
  refine j_iconst c (nI 0) dX1_copyMethods_43 (by decide) ?_
  refine j_aload_n c dX1_copyMethods_44 rfl ?_
  refine j_getR c fl_X1_28 dX1_copyMethods_45 FnP.trial.lt0 (lf0 FnP.trial) rfl ?_
  refine j_alen c dX1_copyMethods_48 (FnP.trial.lt (by decide)) (lf4 FnP.trial) ?_
  refine j_copy c cp_X1_60 cp_nat cp_stat cp_init dX1_copyMethods_49 (hp.lt (by decide)) (FnP.trial.lt (by decide)) (lf4 hp) (lf4 FnP.trial) rfl rfl rfl (by decide) (by decide) (by decide) (by decide) (Nat.le_of_ble_eq_true rfl) (by decide) ?_
  refine j_aload_n c dX1_copyMethods_52 rfl ?_
  refine j_getR c fl_X1_31 dX1_copyMethods_53 hp.lt0 (lf0 hp) rfl ?_
  refine j_iconst c (nI 0) dX1_copyMethods_56 (by decide) ?_
  refine j_aload_n c dX1_copyMethods_57 rfl ?_
  refine j_getR c fl_X1_31 dX1_copyMethods_58 FnP.trial.lt0 (lf0 FnP.trial) rfl ?_
  refine j_iconst c (nI 0) dX1_copyMethods_61 (by decide) ?_
  refine j_aload_n c dX1_copyMethods_62 rfl ?_
  refine j_getR c fl_X1_31 dX1_copyMethods_63 FnP.trial.lt0 (lf0 FnP.trial) rfl ?_
  refine j_alen c dX1_copyMethods_66 (FnP.trial.lt (by decide)) (lf5 FnP.trial) ?_
  refine j_copy c cp_X1_60 cp_nat cp_stat cp_init dX1_copyMethods_67 (hp.lt (by decide)) (FnP.trial.lt (by decide)) (lf5 hp) (lf5 FnP.trial) rfl rfl rfl (by decide) (by decide) (by decide) (by decide) (Nat.le_of_ble_eq_true rfl) (by decide) ?_
  refine j_ret c r dX1_copyMethods_70 ⟨rfl, ⟨?_, ?_, ?_, ?_, ?_⟩, fun q h1 h2 h3 h4 => ?_⟩
  · rw [sR_ne (by decide), sR_ne (by decide), sR_ne (by decide), q0]; exact hF.1
  · rw [sR_ne (by decide), sR_ne (by decide), sR_ne (by decide), q11]; exact hF.2.1
  · intro m t ht
    rw [sR_ne (by decide), sR_ne (by decide), sR_at, cpy_all (hG m t ht).1, q1 (p + 1) (by omega)]
    exact hF.2.2.1 m t ht
  · intro q a hq ha m hm
    rw [sR_at, cpy_all (by omega), sR_ne (by omega), sR_ne (by omega), q1 (p + 5) (by omega)]
    exact hF.2.2.2.1 q a hq ha m hm
  · intro m t ht o ho
    rw [sR_ne (by decide), sR_at, cpy_all (hG m t ht).1, sR_ne (by omega), q1 (p + 4) (by omega)]
    exact hF.2.2.2.2 m t ht o ho
  · rw [sR_ne h4, sR_ne h3, sR_ne h2]; exact q1 q h1
theorem sp_workOut {σ : Sg} {p m : Nat} (hp : FnP p) (hm : m < 12) (w : Int32) {j : Nat} (hj : j < 4) (hk : σ (p + 2) m = nI j) : Sp yX1_workOut cX1_workOut 4 (some .int) 1 [.inr p, .inl (nI m), .inl w] σ (rt σ (.inl (wv (nI j) (σ (p + 3) m) w))) := by
  refine Sp.intro rfl (Nat.le_of_ble_eq_true rfl) (fun Γ c r => ?_)
  show J Γ 0 [some (.inr p), some (.inl (nI m)), some (.inl w), none] [] σ
  refine j_aload_n c dX1_workOut_0 rfl ?_
  refine j_getR c fl_X1_25 dX1_workOut_1 hp.lt0 (lf0 hp) rfl ?_
  refine j_iload_n c dX1_workOut_4 rfl ?_
  refine j_iald c dX1_workOut_5 (hp.lt (by decide)) (lf3 hp) rfl (by omega) (by decide) ?_
  refine j_istore_n c dX1_workOut_6 (Nat.le_of_ble_eq_true rfl) rfl ?_
  refine j_aload_n c dX1_workOut_7 rfl ?_
  refine j_getR c fl_X1_22 dX1_workOut_8 hp.lt0 (lf0 hp) rfl ?_
  refine j_iload_n c dX1_workOut_11 rfl ?_
  refine j_iald c dX1_workOut_12 (hp.lt (by decide)) (lf2 hp) rfl (by omega) (by decide) ?_
  rw [hk]
  rcases (show j = 0 ∨ j = 1 ∨ j = 2 ∨ j = 3 by omega) with rfl | rfl | rfl | rfl
  · refine j_tableOut c 54 dX1_workOut_13 (by left; decide) (by decide) ?_
    refine j_iload_n c dX1_workOut_54 rfl ?_
    exact j_iret c r dX1_workOut_55 rfl ⟨rfl, rfl⟩
  · refine j_tableIn (off := 27) c 40 dX1_workOut_13 (by decide) (by decide) (by decide) (by decide) ?_
    refine j_iload_n c dX1_workOut_40 rfl ?_
    refine j_iload_n c dX1_workOut_41 rfl ?_
    refine j_iadd c _ dX1_workOut_42 rfl ?_
    exact j_iret c r dX1_workOut_43 rfl ⟨rfl, rfl⟩
  · refine j_tableIn (off := 31) c 44 dX1_workOut_13 (by decide) (by decide) (by decide) (by decide) ?_
    refine j_iload_n c dX1_workOut_44 rfl ?_
    refine j_iload_n c dX1_workOut_45 rfl ?_
    refine j_imul c _ dX1_workOut_46 rfl ?_
    exact j_iret c r dX1_workOut_47 rfl ⟨rfl, rfl⟩
  · refine j_tableIn (off := 35) c 48 dX1_workOut_13 (by decide) (by decide) (by decide) (by decide) ?_
    refine j_iload_n c dX1_workOut_48 rfl ?_
    refine j_iload_n c dX1_workOut_49 rfl ?_
    refine j_max c mx_link mx_stat mx_init mx_code dX1_workOut_50 (Nat.le_of_ble_eq_true rfl) (by decide) ?_
    refine j_iret c r dX1_workOut_53 rfl (rt.mk ?_)
    congr 1
    show (if σ (p + 3) m < w then w else σ (p + 3) m) = (if w < σ (p + 3) m then σ (p + 3) m else w)
    by_cases h1 : σ (p + 3) m < w
    · rw [if_pos h1, if_neg (Int32.not_lt.mpr (Int32.le_of_lt h1))]
    · rw [if_neg h1]
      by_cases h2 : w < σ (p + 3) m
      · rw [if_pos h2]
      · rw [if_neg h2]
        exact Int32.le_antisymm (Int32.not_lt.mp h2) (Int32.not_lt.mp h1)
theorem sp_removeKept {σ : Sg} {p i : Nat} {l : List Nat} (hp : FnP p) (hK : KX p l σ) (h6 : l.length ≤ 6) (hi : i < l.length) : Sp yX1_removeKept cX1_removeKept 3 none 0 [.inr p, .inl (nI i)] σ (fun r σ' => r = none ∧ KX p (l.eraseIdx i) σ' ∧ (∀ q, q ≠ p → q ≠ p + 6 → σ' q = σ q) ∧ ∀ j, j ≠ 8 → σ' p j = σ p j) := by
  refine Sp.intro rfl (Nat.le_of_ble_eq_true rfl) (fun Γ c r => ?_)
  show J Γ 0 [some (.inr p), some (.inl (nI i)), none] [] σ
  refine j_iload_n c dX1_removeKept_0 rfl ?_
  refine j_istore_n c dX1_removeKept_1 (Nat.le_of_ble_eq_true rfl) rfl ?_
  have key : ∀ k, k ≤ l.length - 1 → i ≤ k → ∀ σ1 : Sg, (∀ q, q ≠ p + 6 → σ1 q = σ q) → (∀ j z, j < k → (l.eraseIdx i)[j]? = some z → σ1 (p + 6) j = nI z) → (∀ j z, k ≤ j → l[j]? = some z → σ1 (p + 6) j = nI z) → J Γ 2 [some (.inr p), some (.inl (nI i)), some (.inl (nI k))] [] σ1 := by
    refine loopN _ ?_ ?_
    · intro hik σ1 f1 f2 f3
      refine j_iload_n c dX1_removeKept_2 rfl ?_
      refine j_aload_n c dX1_removeKept_3 rfl ?_
      refine j_getI c fl_X1_37 dX1_removeKept_4 hp.lt0 (lf0 hp) rfl ?_
      rw [f1 p (by omega), hK.1]
      refine j_iconst c (nI 1) dX1_removeKept_7 (by decide) ?_
      refine j_isub c _ dX1_removeKept_8 (by first | exact pk_sub (by omega) | rfl) ?_
      refine j_icmp_ge c 32 dX1_removeKept_9 (by decide) (fun _ => ?_) (fun h_9 => absurd (nI_le (Nat.le_refl _) (by omega)) h_9)
      refine j_aload_n c dX1_removeKept_32 rfl ?_
      refine j_dup c dX1_removeKept_33 ?_
      refine j_getI c fl_X1_37 dX1_removeKept_34 hp.lt0 (lf0 hp) rfl ?_
      rw [f1 p (by omega), hK.1]
      refine j_iconst c (nI 1) dX1_removeKept_37 (by decide) ?_
      refine j_isub c _ dX1_removeKept_38 (by first | exact pk_sub (by omega) | rfl) ?_
      refine j_putI c fl_X1_37 dX1_removeKept_39 hp.lt0 (lf0 hp) rfl ?_
      refine j_ret c r dX1_removeKept_42 ⟨rfl, ⟨?_, fun j z hj => ?_⟩, fun q h1 h2 => by rw [s2_np h1]; exact f1 q h2, fun j hj => by rw [s2_nk hj, f1 p (by omega)]⟩
      · rw [s2_at, List.length_eraseIdx_of_lt hi]
      · rw [s2_np (by omega)]
        have h1 := (List.getElem?_eq_some_iff.mp hj).1
        rw [List.length_eraseIdx_of_lt hi] at h1
        exact f2 j z h1 hj
    · intro k hk ih hik σ1 f1 f2 f3
      obtain ⟨z, hz⟩ : ∃ z, l[k + 1]? = some z := ⟨_, List.getElem?_eq_getElem (by omega)⟩
      refine j_iload_n c dX1_removeKept_2 rfl ?_
      refine j_aload_n c dX1_removeKept_3 rfl ?_
      refine j_getI c fl_X1_37 dX1_removeKept_4 hp.lt0 (lf0 hp) rfl ?_
      rw [f1 p (by omega), hK.1]
      refine j_iconst c (nI 1) dX1_removeKept_7 (by decide) ?_
      refine j_isub c _ dX1_removeKept_8 (by first | exact pk_sub (by omega) | rfl) ?_
      refine j_icmp_ge c 32 dX1_removeKept_9 (by decide) (fun h_9 => absurd h_9 (nI_ge hk (by omega))) (fun _ => ?_)
      refine j_aload_n c dX1_removeKept_12 rfl ?_
      refine j_getR c fl_X1_34 dX1_removeKept_13 hp.lt0 (lf0 hp) rfl ?_
      refine j_iload_n c dX1_removeKept_16 rfl ?_
      refine j_aload_n c dX1_removeKept_17 rfl ?_
      refine j_getR c fl_X1_34 dX1_removeKept_18 hp.lt0 (lf0 hp) rfl ?_
      refine j_iload_n c dX1_removeKept_21 rfl ?_
      refine j_iconst c (nI 1) dX1_removeKept_22 (by decide) ?_
      refine j_iadd c _ dX1_removeKept_23 (by first | exact nI_add _ _ | rfl) ?_
      refine j_iald c dX1_removeKept_24 (hp.lt (by decide)) (lf6 hp) rfl (by omega) (by decide) ?_
      rw [f3 (k + 1) z (by omega) hz]
      refine j_iast c dX1_removeKept_25 (by first | exact (Nat.le_of_ble_eq_true rfl) | exact hp.lt (by decide)) (by first | exact lf1 hp | exact lf2 hp | exact lf3 hp | exact lf4 hp | exact lf5 hp | exact lf6 hp | rfl) rfl (by omega) (by decide) ?_
      refine j_iinc c _ dX1_removeKept_26 rfl (by first | exact nI_1 _ | exact pk_m1 _ | rfl) rfl ?_
      refine j_goto c 2 dX1_removeKept_29 (by decide) ?_
      refine ih (by omega) _ (fun q h => by rw [s2_np h]; exact f1 q h) (fun j y hj hy => ?_) (fun j y hj hy => by rw [s2_nk (by omega)]; exact f3 j y (by omega) hy)
      by_cases ej : j = k
      · subst ej
        rw [s2_at]
        rw [List.getElem?_eraseIdx, if_neg (by omega), hz] at hy
        cases hy
        rfl
      · rw [s2_nk ej]; exact f2 j y (by omega) hy
  refine key i (by omega) (Nat.le_refl _) σ (fun _ _ => rfl) (fun j z hj hz => ?_) (fun j z _ hz => hK.2 j z hz)
  rw [List.getElem?_eraseIdx, if_pos hj] at hz
  exact hK.2 j z hz
theorem sp_addKept {σ : Sg} {p a : Nat} {l : List Nat} (hp : FnP p) (hK : KX p l σ) (h6 : l.length < 6) : Sp yX1_addKept cX1_addKept 2 none 0 [.inr p, .inl (nI a)] σ (fun r σ' => r = none ∧ KX p (l ++ [a]) σ' ∧ (∀ q, q ≠ p → q ≠ p + 6 → σ' q = σ q) ∧ ∀ j, j ≠ 8 → σ' p j = σ p j) := by
  refine Sp.intro rfl (Nat.le_of_ble_eq_true rfl) (fun Γ c r => ?_)
  show J Γ 0 [some (.inr p), some (.inl (nI a))] [] σ
  refine j_aload_n c dX1_addKept_0 rfl ?_
  refine j_getR c fl_X1_34 dX1_addKept_1 hp.lt0 (lf0 hp) rfl ?_
  refine j_aload_n c dX1_addKept_4 rfl ?_
  refine j_getI c fl_X1_37 dX1_addKept_5 hp.lt0 (lf0 hp) rfl ?_
  rw [hK.1]
  refine j_iload_n c dX1_addKept_8 rfl ?_
  refine j_iast c dX1_addKept_9 (by first | exact (Nat.le_of_ble_eq_true rfl) | exact hp.lt (by decide)) (by first | exact lf1 hp | exact lf2 hp | exact lf3 hp | exact lf4 hp | exact lf5 hp | exact lf6 hp | rfl) rfl (by omega) (by decide) ?_
  refine j_aload_n c dX1_addKept_10 rfl ?_
  refine j_dup c dX1_addKept_11 ?_
  refine j_getI c fl_X1_37 dX1_addKept_12 hp.lt0 (lf0 hp) rfl ?_
  rw [s2_np (by omega), hK.1]
  refine j_iconst c (nI 1) dX1_addKept_15 (by decide) ?_
  refine j_iadd c _ dX1_addKept_16 (by first | exact nI_add _ _ | rfl) ?_
  refine j_putI c fl_X1_37 dX1_addKept_17 hp.lt0 (lf0 hp) rfl ?_
  refine j_ret c r dX1_addKept_20 ⟨rfl, ⟨by rw [s2_at]; simp, fun j z hj => ?_⟩, fun q h1 h2 => by rw [s2_np h1, s2_np h2], fun j hj => by rw [s2_nk hj, s2_np (by omega)]⟩
  rw [s2_np (by omega)]
  by_cases ej : j = l.length
  · subst ej
    rw [List.getElem?_append_right (Nat.le_refl _), Nat.sub_self] at hj
    cases hj
    exact s2_at _ _ _ _
  · rw [s2_nk ej]
    have : j < l.length := by
      have := (List.getElem?_eq_some_iff.mp hj).1
      simp at this
      omega
    rw [List.getElem?_append_left this] at hj
    exact hK.2 j z hj
theorem sp_ask {σ : Sg} {p a : Nat} {l : List Nat} (hp : FnP p) (hK : KX p l σ) (h6 : l.length ≤ 6) (hl : ∀ x, x ∈ l → x < 4096) (ha : a < 4096) : Sp yX1_ask cX1_ask 3 (some .boolean) 1 [.inr p, .inl (nI a)] σ (fun r σ' => r = some (.inl (bI (decide (l.idxOf a < l.length)))) ∧ KX p (nKp l a) σ' ∧ (∀ q, q ≠ p → q ≠ p + 6 → σ' q = σ q) ∧ ∀ j, j ≠ 8 → σ' p j = σ p j) := by
  refine Sp.intro rfl (Nat.le_of_ble_eq_true rfl) (fun Γ c r => ?_)
  show J Γ 0 [some (.inr p), some (.inl (nI a)), none] [] σ
  refine j_iconst c (nI 0) dX1_ask_0 (by decide) ?_
  refine j_istore_n c dX1_ask_1 (Nat.le_of_ble_eq_true rfl) rfl ?_
  have key : ∀ k, k ≤ l.length → (∀ j, j < k → l[j]? ≠ some a) → J Γ 2 [some (.inr p), some (.inl (nI a)), some (.inl (nI k))] [] σ := by
    refine loopN _ ?_ ?_
    · intro h0
      have hidx := idx_no h0
      refine j_iload_n c dX1_ask_2 rfl ?_
      refine j_aload_n c dX1_ask_3 rfl ?_
      refine j_getI c fl_X1_37 dX1_ask_4 hp.lt0 (lf0 hp) rfl ?_
      rw [hK.1]
      refine j_icmp_ge c 38 dX1_ask_7 (by decide) (fun _ => ?_) (fun h_9 => absurd (nI_le (Nat.le_refl _) (by omega)) h_9)
      refine j_aload_n c dX1_ask_38 rfl ?_
      refine j_getI c fl_X1_37 dX1_ask_39 hp.lt0 (lf0 hp) rfl ?_
      rw [hK.1]
      refine j_bipush c (nI 6) dX1_ask_42 (by decide) ?_
      by_cases hf : l.length = 6
      · have hkI : kpI l a = 0 := by unfold kpI; rw [hidx, if_neg (by omega), if_pos hf]
        rw [hf]
        refine j_icmp_ne c 52 dX1_ask_44 (by decide) (fun h_9 => absurd (by rfl) h_9) (fun _ => ?_)
        refine j_aload_n c dX1_ask_47 rfl ?_
        refine j_iconst c (nI 0) dX1_ask_48 (by decide) ?_
        refine j_callV c kw_X1_71 (sp_removeKept hp hK h6 (i := 0) (by omega)) dX1_ask_49 rfl rfl (by decide) (Nat.le_of_ble_eq_true rfl) hp.lt0 (lf0 hp) rfl ?_
        rintro _ σ1 ⟨rfl, K1, f1, f2⟩
        refine j_aload_n c dX1_ask_52 rfl ?_
        refine j_iload_n c dX1_ask_53 rfl ?_
        refine j_callV c kw_X1_75 (sp_addKept hp (a := a) K1 (by rw [List.length_eraseIdx_of_lt (by omega)]; omega)) dX1_ask_54 rfl rfl (by decide) (Nat.le_of_ble_eq_true rfl) hp.lt0 (lf0 hp) rfl ?_
        rintro _ σ2 ⟨rfl, K2, g1, g2⟩
        refine j_iconst c (nI 0) dX1_ask_57 (by decide) ?_
        exact j_iret c r dX1_ask_58 rfl ⟨by rw [hidx]; simp [bI], by unfold nKp; rw [hkI]; exact K2, fun q h1 h2 => by rw [g1 q h1 h2]; exact f1 q h1 h2, fun j hj => by rw [g2 j hj]; exact f2 j hj⟩
      · have hkI : kpI l a = l.length := by unfold kpI; rw [hidx, if_neg (by omega), if_neg hf]
        refine j_icmp_ne c 52 dX1_ask_44 (by decide) (fun _ => ?_) (fun h_9 => absurd h_9 (fun h => hf ((nI_eq (by omega) (by decide)).mp h)))
        refine j_aload_n c dX1_ask_52 rfl ?_
        refine j_iload_n c dX1_ask_53 rfl ?_
        refine j_callV c kw_X1_75 (sp_addKept hp (a := a) hK (by omega)) dX1_ask_54 rfl rfl (by decide) (Nat.le_of_ble_eq_true rfl) hp.lt0 (lf0 hp) rfl ?_
        rintro _ σ2 ⟨rfl, K2, g1, g2⟩
        refine j_iconst c (nI 0) dX1_ask_57 (by decide) ?_
        exact j_iret c r dX1_ask_58 rfl ⟨by rw [hidx]; simp [bI], by unfold nKp; rw [hkI, List.eraseIdx_of_length_le (Nat.le_refl _)]; exact K2, g1, g2⟩
    · intro k hk ih h0
      obtain ⟨z, hz⟩ : ∃ z, l[k]? = some z := ⟨_, List.getElem?_eq_getElem hk⟩
      have hzl := hl z (List.mem_of_getElem? hz)
      refine j_iload_n c dX1_ask_2 rfl ?_
      refine j_aload_n c dX1_ask_3 rfl ?_
      refine j_getI c fl_X1_37 dX1_ask_4 hp.lt0 (lf0 hp) rfl ?_
      rw [hK.1]
      refine j_icmp_ge c 38 dX1_ask_7 (by decide) (fun h_9 => absurd h_9 (nI_ge hk (by omega))) (fun _ => ?_)
      refine j_aload_n c dX1_ask_10 rfl ?_
      refine j_getR c fl_X1_34 dX1_ask_11 hp.lt0 (lf0 hp) rfl ?_
      refine j_iload_n c dX1_ask_14 rfl ?_
      refine j_iald c dX1_ask_15 (hp.lt (by decide)) (lf6 hp) rfl (by omega) (by decide) ?_
      rw [hK.2 k z hz]
      refine j_iload_n c dX1_ask_16 rfl ?_
      refine j_icmp_ne c 32 dX1_ask_17 (by decide) (fun e => ?_) (fun e => ?_)
      · rw [nI_eq (by omega) (by omega)] at e
        refine j_iinc c _ dX1_ask_32 rfl (by first | exact nI_1 _ | exact pk_m1 _ | rfl) rfl ?_
        refine j_goto c 2 dX1_ask_35 (by decide) ?_
        refine ih (fun j hj => ?_)
        by_cases ej : j = k
        · subst ej; rw [hz]; intro h; cases h; exact e rfl
        · exact h0 j (by omega)
      · rw [nI_eq (by omega) (by omega)] at e
        subst e
        have hidx := idx_hit hz h0
        have hkI : kpI l z = k := by unfold kpI; rw [hidx, if_pos hk]
        refine j_aload_n c dX1_ask_20 rfl ?_
        refine j_iload_n c dX1_ask_21 rfl ?_
        refine j_callV c kw_X1_71 (sp_removeKept hp hK h6 (i := k) hk) dX1_ask_22 rfl rfl (by decide) (Nat.le_of_ble_eq_true rfl) hp.lt0 (lf0 hp) rfl ?_
        rintro _ σ1 ⟨rfl, K1, f1, f2⟩
        refine j_aload_n c dX1_ask_25 rfl ?_
        refine j_iload_n c dX1_ask_26 rfl ?_
        refine j_callV c kw_X1_75 (sp_addKept hp (a := z) K1 (by rw [List.length_eraseIdx_of_lt hk]; omega)) dX1_ask_27 rfl rfl (by decide) (Nat.le_of_ble_eq_true rfl) hp.lt0 (lf0 hp) rfl ?_
        rintro _ σ2 ⟨rfl, K2, g1, g2⟩
        refine j_iconst c (nI 1) dX1_ask_30 (by decide) ?_
        exact j_iret c r dX1_ask_31 rfl ⟨by rw [hidx]; simp [bI, hk], by unfold nKp; rw [hkI]; exact K2, fun q h1 h2 => by rw [g1 q h1 h2]; exact f1 q h1 h2, fun j hj => by rw [g2 j hj]; exact f2 j hj⟩
  exact key 0 (Nat.zero_le _) (fun j hj => by omega)
theorem sp_forget {σ : Sg} {p n k : Nat} {l : List Nat} {ls : Nat → List Nat} {g : Nat → Option Nat} (hp : FnP p) (hn : n ≤ 16) (hK : KX p l σ) (h6 : l.length ≤ 6) (h5 : ∀ q c, q < 3 → c < n → ∀ m, m < 32 → bt (σ (p + 5) (16 * q + c)) m = fitB ls g q c m) (hl : ∀ x, x ∈ l → x < 4096 ∧ dg x 0 < n ∧ dg x 1 < n ∧ dg x 2 < n) (hk : k < 13) : Sp yX1_forget cX1_forget 4 none 2 [.inr p, .inl (nI k)] σ (fun r σ' => r = none ∧ KX p (l.filter (fun x => !appB ls g x k)) σ' ∧ (∀ q, q ≠ p → q ≠ p + 6 → σ' q = σ q) ∧ ∀ j, j ≠ 8 → σ' p j = σ p j) := by
  refine Sp.intro rfl (Nat.le_of_ble_eq_true rfl) (fun Γ c r => ?_)
  show J Γ 0 [some (.inr p), some (.inl (nI k)), none, none] [] σ
  refine j_iconst c (nI 0) dX1_forget_0 (by decide) ?_
  refine j_istore_n c dX1_forget_1 (Nat.le_of_ble_eq_true rfl) rfl ?_
  refine j_iconst c (nI 0) dX1_forget_2 (by decide) ?_
  refine j_istore_n c dX1_forget_3 (Nat.le_of_ble_eq_true rfl) rfl ?_
  have key : ∀ i, i ≤ l.length → ∀ (D : List Nat) (σ1 : Sg), D = (l.take i).filter (fun x => !appB ls g x k) → (∀ q, q ≠ p + 6 → σ1 q = σ q) → (∀ j z, D[j]? = some z → σ1 (p + 6) j = nI z) → (∀ j z, i ≤ j → l[j]? = some z → σ1 (p + 6) j = nI z) → J Γ 4 [some (.inr p), some (.inl (nI k)), some (.inl (nI D.length)), some (.inl (nI i))] [] σ1 := by
    refine loopN _ ?_ ?_
    · intro D σ1 hD f1 f2 f3
      rw [List.take_length] at hD
      refine j_iload_n c dX1_forget_4 rfl ?_
      refine j_aload_n c dX1_forget_5 rfl ?_
      refine j_getI c fl_X1_37 dX1_forget_6 hp.lt0 (lf0 hp) rfl ?_
      rw [f1 p (by omega), hK.1]
      refine j_icmp_ge c 50 dX1_forget_9 (by decide) (fun _ => ?_) (fun h_9 => absurd (nI_le (Nat.le_refl _) (by omega)) h_9)
      refine j_aload_n c dX1_forget_50 rfl ?_
      refine j_iload_n c dX1_forget_51 rfl ?_
      refine j_putI c fl_X1_37 dX1_forget_52 hp.lt0 (lf0 hp) rfl ?_
      refine j_ret c r dX1_forget_55 ⟨rfl, ⟨by rw [s2_at, hD], fun j z hj => ?_⟩, fun q h1 h2 => by rw [s2_np h1]; exact f1 q h2, fun j hj => by rw [s2_nk hj, f1 p (by omega)]⟩
      rw [s2_np (by omega)]
      rw [← hD] at hj
      exact f2 j z hj
    · intro i hi ih D σ1 hD f1 f2 f3
      obtain ⟨z, hz⟩ : ∃ z, l[i]? = some z := ⟨_, List.getElem?_eq_getElem hi⟩
      have hzl := hl z (List.mem_of_getElem? hz)
      have htk : l.take (i + 1) = l.take i ++ [z] := by rw [List.take_add_one, hz]; rfl
      have hDl : D.length ≤ i := by
        rw [hD]
        have h1 := List.length_filter_le (fun x => !appB ls g x k) (l.take i)
        rw [List.length_take] at h1
        omega
      refine j_iload_n c dX1_forget_4 rfl ?_
      refine j_aload_n c dX1_forget_5 rfl ?_
      refine j_getI c fl_X1_37 dX1_forget_6 hp.lt0 (lf0 hp) rfl ?_
      rw [f1 p (by omega), hK.1]
      refine j_icmp_ge c 50 dX1_forget_9 (by decide) (fun h_9 => absurd h_9 (nI_ge hi (by omega))) (fun _ => ?_)
      refine j_aload_n c dX1_forget_12 rfl ?_
      refine j_aload_n c dX1_forget_13 rfl ?_
      refine j_getR c fl_X1_34 dX1_forget_14 hp.lt0 (lf0 hp) rfl ?_
      refine j_iload_n c dX1_forget_17 rfl ?_
      refine j_iald c dX1_forget_18 (hp.lt (by decide)) (lf6 hp) rfl (by omega) (by decide) ?_
      rw [f3 i z (Nat.le_refl _) hz]
      refine j_callV1 c kw_X1_56 (sp_thatApply hp hn (by rw [f1 (p + 5) (by omega)]; exact h5) hzl.1 hzl.2.1 hzl.2.2.1 hzl.2.2.2) dX1_forget_19 rfl rfl (by decide) (Nat.le_of_ble_eq_true rfl) hp.lt0 (lf0 hp) rfl ?_
      refine j_iload_n c dX1_forget_22 rfl ?_
      refine j_ishr c _ dX1_forget_23 rfl ?_
      refine j_iconst c (nI 1) dX1_forget_24 (by decide) ?_
      refine j_iand c _ dX1_forget_25 (bt_shr _ (by omega)) ?_
      rw [bt_app]
      refine j_if_ne c 44 dX1_forget_26 (by decide) (fun e => ?_) (fun e => ?_)
      · refine j_iinc c _ dX1_forget_44 rfl (by first | exact nI_1 _ | exact pk_m1 _ | rfl) rfl ?_
        refine j_goto c 4 dX1_forget_47 (by decide) ?_
        refine ih D σ1 ?_ f1 f2 (fun j y hj => f3 j y (by omega))
        rw [htk, List.filter_append, ← hD]
        simp [bI_nz e]
      · refine j_aload_n c dX1_forget_29 rfl ?_
        refine j_getR c fl_X1_34 dX1_forget_30 hp.lt0 (lf0 hp) rfl ?_
        refine j_iload_n c dX1_forget_33 rfl ?_
        refine j_aload_n c dX1_forget_34 rfl ?_
        refine j_getR c fl_X1_34 dX1_forget_35 hp.lt0 (lf0 hp) rfl ?_
        refine j_iload_n c dX1_forget_38 rfl ?_
        refine j_iald c dX1_forget_39 (hp.lt (by decide)) (lf6 hp) rfl (by omega) (by decide) ?_
        rw [f3 i z (Nat.le_refl _) hz]
        refine j_iast c dX1_forget_40 (by first | exact (Nat.le_of_ble_eq_true rfl) | exact hp.lt (by decide)) (by first | exact lf1 hp | exact lf2 hp | exact lf3 hp | exact lf4 hp | exact lf5 hp | exact lf6 hp | rfl) rfl (by omega) (by decide) ?_
        refine j_iinc c _ dX1_forget_41 rfl (by first | exact nI_1 _ | exact pk_m1 _ | rfl) rfl ?_
        refine j_iinc c _ dX1_forget_44 rfl (by first | exact nI_1 _ | exact pk_m1 _ | rfl) rfl ?_
        refine j_goto c 4 dX1_forget_47 (by decide) ?_
        have hl2 : (D ++ [z]).length = D.length + 1 := by simp
        have ih2 := ih (D ++ [z]) (s2 σ1 (p + 6) D.length (nI z)) (by rw [htk, List.filter_append, ← hD]; simp [bI_z e]) (fun q h => by rw [s2_np h]; exact f1 q h) (fun j y hj => by
          by_cases ej : j = D.length
          · subst ej
            rw [List.getElem?_append_right (Nat.le_refl _), Nat.sub_self] at hj
            cases hj
            exact s2_at _ _ _ _
          · rw [s2_nk ej]
            have : j < D.length := by
              have := (List.getElem?_eq_some_iff.mp hj).1
              simp at this
              omega
            rw [List.getElem?_append_left this] at hj
            exact f2 j y hj) (fun j y h1 hj => by rw [s2_nk (by omega)]; exact f3 j y (by omega) hj)
        rw [hl2] at ih2
        exact ih2
  exact key 0 (Nat.zero_le _) [] σ rfl (fun _ _ => rfl) (fun j z h => by simp at h) (fun j z _ h => hK.2 j z h)
