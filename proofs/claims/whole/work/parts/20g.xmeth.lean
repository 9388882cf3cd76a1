-- ===== 20g: the class's method, drop =====
theorem mFor_none {T : TS} (hW : WF T) {f w : Nat} (hf : f < tnf T) (h : mFor T f w = none) : ∀ m, ttg T f m ≠ some w := fun m e => by
  have h1 := fnd_none h m (hW.2.2.2.2.2.1 f m w hf e).1
  simp [e] at h1
theorem sp_methodX {T : TS} {σ : Sg} (hX : InvX T σ) (hW : WF T) (x y k v : Int32) : Sp yX2_method cX2_method 7 (some .int) 4 [.inr 0, .inl x, .inl y, .inl k, .inl v] σ (nX (tMeth T x y k v) σ (aMeth T x y k v)) := by
  have h4 := hW.2.2.2.1
  have hn := hW.1
  refine Sp.intro rfl (Nat.le_of_ble_eq_true rfl) (fun Γ c r => ?_)
  show J Γ 0 [some (.inr 0), some (.inl x), some (.inl y), some (.inl k), some (.inl v), none, none] [] σ
  have bad : okMeth T x y k v = false → J Γ 34 [some (.inr 0), some (.inl x), some (.inl y), some (.inl k), some (.inl v), none, none] [] σ := by
    intro h
    refine j_iconst c (-1) dX2_method_34 (by decide) ?_
    exact j_iret c r dX2_method_35 rfl ⟨by simp [aMeth, h], by simp only [tMeth, h]; exact hX, frXo.rfl' σ⟩
  refine j_aload_n c dX2_method_0 rfl ?_
  refine j_iload_n c dX2_method_1 rfl ?_
  refine j_iload_n c dX2_method_2 rfl ?_
  refine j_callV1 c kw_X2_96 (sp_hasCall hX hW x y) dX2_method_3 rfl rfl (by decide) (Nat.le_of_ble_eq_true rfl) (Nat.le_of_ble_eq_true rfl) rfl rfl ?_
  refine j_if_eq c 34 dX2_method_6 (by decide) (fun e => ?_) (fun e => ?_)
  · exact bad (by simp [okMeth, bI_z e])
  · have e2 := bI_nz e
    refine j_iload_n c dX2_method_9 rfl ?_
    refine j_if_lt c 34 dX2_method_10 (by decide) (fun g => ?_) (fun g => ?_)
    · exact bad (by simp [okMeth, isN_neg g])
    · obtain ⟨j, hj2, rfl⟩ := nI_of g
      refine j_iload_n c dX2_method_13 rfl ?_
      refine j_iconst c (nI 3) dX2_method_14 (by decide) ?_
      refine j_icmp_gt c 34 dX2_method_15 (by decide) (fun u => ?_) (fun u => ?_)
      · rw [nI_ltI (by decide) hj2] at u
        exact bad (by unfold okMeth; rw [isN_nI hj2, decide_eq_false (by omega)]; simp)
      · rw [nI_ltI (by decide) hj2] at u
        refine j_iload c dX2_method_18 rfl ?_
        refine j_sipush c (-999) dX2_method_20 (by decide) ?_
        refine j_icmp_lt c 34 dX2_method_23 (by decide) (fun q => ?_) (fun q => ?_)
        · exact bad (by unfold okMeth; rw [decide_eq_false (Int32.not_le.mpr q)]; simp)
        · have q2 := Int32.not_lt.mp q
          refine j_iload c dX2_method_26 rfl ?_
          refine j_sipush c (nI 999) dX2_method_28 (by decide) ?_
          refine j_icmp_le c 36 dX2_method_31 (by decide) (fun z => ?_) (fun z => ?_)
          · have hok : okMeth T x y (nI j) v = true := by unfold okMeth; rw [e2, isN_nI hj2, decide_eq_true (by omega), decide_eq_true q2, decide_eq_true z]; rfl
            obtain ⟨i, w, hi, rfl, rfl, hv⟩ := isC_of h4 e2
            have hpl := hW.2.2.2.2.1 i hi
            have hwl := vcall_lt hv hpl.2
            have hp : FnP (15 + 7 * i) := FnP.of (by omega)
            have ha : aMeth T (nI i) (nI w) (nI j) v = (match mFree T i with | none => -1 | some m => match mFor T i w with | some _ => -2 | none => nI m) := by
              unfold aMeth
              rw [hok, nI_clamp (n := i) (by omega), nI_clamp (n := w) (by omega)]
              rfl
            have ht : tMeth T (nI i) (nI w) (nI j) v = (match mFree T i with | none => T | some m => match mFor T i w with | some _ => T | none => nMeth T i m w (nI j) v) := by
              unfold tMeth
              rw [hok, nI_clamp (n := i) (by omega), nI_clamp (n := w) (by omega)]
              rfl
            rw [ha, ht] at r
            have hF := hX.2.2.2.2.2.1 i hi
            have hG := GOK.of hW hi
            have hfe : frO (ttg T i) = mFree T i := rfl
            refine j_aload_n c dX2_method_36 rfl ?_
            refine j_getR c fl_X2_18 dX2_method_37 (Nat.le_of_ble_eq_true rfl) rfl rfl ?_
            refine j_iload_n c dX2_method_40 rfl ?_
            refine j_aald c dX2_method_41 (Nat.le_of_ble_eq_true rfl) rfl rfl (by omega) (by decide) ?_
            refine j_astore c dX2_method_42 (Nat.le_of_ble_eq_true rfl) rfl ?_
            refine j_aload c dX2_method_44 rfl ?_
            refine j_callV1 c kw_X2_99 (sp_leastFree hp hF.2.1) dX2_method_46 rfl rfl (by decide) (Nat.le_of_ble_eq_true rfl) hp.lt0 (lf0 hp) rfl ?_
            rw [hfe]
            cases hfr : mFree T i with
            | none =>
              rw [hfr] at r
              refine j_istore c dX2_method_49 (Nat.le_of_ble_eq_true rfl) rfl ?_
              refine j_iload c dX2_method_51 rfl ?_
              refine j_iconst c (-1) dX2_method_53 (by decide) ?_
              refine j_icmp_ne c 59 dX2_method_54 (by decide) (fun h_9 => absurd (by rfl) h_9) (fun _ => ?_)
              refine j_iconst c (-1) dX2_method_57 (by decide) ?_
              exact j_iret c r dX2_method_58 rfl ⟨rfl, hX, frXo.rfl' σ⟩
            | some m =>
              rw [hfr] at r
              obtain ⟨hm, hmn, _⟩ := fnd_some hfr
              have hmn2 : ttg T i m = none := by simpa using hmn
              refine j_istore c dX2_method_49 (Nat.le_of_ble_eq_true rfl) rfl ?_
              refine j_iload c dX2_method_51 rfl ?_
              refine j_iconst c (-1) dX2_method_53 (by decide) ?_
              refine j_icmp_ne c 59 dX2_method_54 (by decide) (fun _ => ?_) (fun h_9 => absurd h_9 (oI_ne (t := m) (by omega)))
              refine j_aload c dX2_method_59 rfl ?_
              refine j_iload_n c dX2_method_61 rfl ?_
              refine j_callV1 c kw_X2_103 (sp_hasMethodFor hp hF.2.1 (fun m t h => ⟨hF.2.2.1 m t h, (hG m t h).2.2.2.2.2.2⟩) hwl) dX2_method_62 rfl rfl (by decide) (Nat.le_of_ble_eq_true rfl) hp.lt0 (lf0 hp) rfl ?_
              have hfo2 : (fnd (fun m => decide (ttg T i m = some w)) 12) = mFor T i w := rfl
              rw [hfo2]
              cases hfo : mFor T i w with
              | some m2 =>
                rw [hfo] at r
                refine j_if_eq c 71 dX2_method_65 (by decide) (fun h_9 => absurd h_9 (by show ¬ bI true = 0; decide)) (fun _ => ?_)
                refine j_bipush c (-2) dX2_method_68 (by decide) ?_
                exact j_iret c r dX2_method_70 rfl ⟨rfl, hX, frXo.rfl' σ⟩
              | none =>
                rw [hfo] at r
                have hno := mFor_none hW hi hfo
                refine j_if_eq c 71 dX2_method_65 (by decide) (fun _ => ?_) (fun h_9 => absurd (by rfl) h_9)
                refine j_aload c dX2_method_71 rfl ?_
                refine j_iload c dX2_method_73 rfl ?_
                refine j_iload_n c dX2_method_75 rfl ?_
                refine j_aload_n c dX2_method_76 rfl ?_
                refine j_getR c fl_X2_12 dX2_method_77 (Nat.le_of_ble_eq_true rfl) rfl rfl ?_
                refine j_callV c kw_X2_106 (sp_put hp hX.1 hW hF hG hpl.2 (show m < 13 by omega) hmn2 hv) dX2_method_80 rfl rfl (by decide) (Nat.le_of_ble_eq_true rfl) hp.lt0 (lf0 hp) rfl ?_
                rintro _ σ1 ⟨rfl, F1, f1, f2⟩
                refine j_aload c dX2_method_83 rfl ?_
                refine j_getR c fl_X2_110 dX2_method_85 hp.lt0 (lf0 hp) rfl ?_
                refine j_iload c dX2_method_88 rfl ?_
                refine j_iload_n c dX2_method_90 rfl ?_
                refine j_iast c dX2_method_91 (hp.lt (by decide)) (lf2 hp) rfl (by omega) (by decide) ?_
                refine j_aload c dX2_method_92 rfl ?_
                refine j_getR c fl_X2_113 dX2_method_94 hp.lt0 (lf0 hp) rfl ?_
                refine j_iload c dX2_method_97 rfl ?_
                refine j_iload c dX2_method_99 rfl ?_
                refine j_iast c dX2_method_101 (hp.lt (by decide)) (lf3 hp) rfl (by omega) (by decide) ?_
                refine j_aload c dX2_method_102 rfl ?_
                refine j_iload c dX2_method_104 rfl ?_
                have hK := hX.2.2.2.2.2.2.2.1 i (by omega)
                have hkp := hW.2.2.2.2.2.2.2.1 i (by omega)
                have hkv := hW.2.2.2.2.2.2.2.2 i
                have K1 : KX (15 + 7 * i) (tkp T i) (s2 (s2 σ1 (15 + 7 * i + 2) m (nI j)) (15 + 7 * i + 3) m v) := hK.keep (by rw [s2_np (by omega), s2_np (by omega)]; exact f2 8 (by decide)) (by rw [s2_np (by omega), s2_np (by omega)]; exact f1 _ (by omega) (by omega) (by omega) (by omega))
                have F2 : FX (tn T) (tls T) (15 + 7 * i) (tpl T i) (va_up (ttg T i) m (some w)) (s2 (s2 σ1 (15 + 7 * i + 2) m (nI j)) (15 + 7 * i + 3) m v) := F1.keep (by rw [s2_np (by omega), s2_np (by omega)]) (by rw [s2_np (by omega), s2_np (by omega)]) (by rw [s2_np (by omega), s2_np (by omega)]) (by rw [s2_np (by omega), s2_np (by omega)]) (by rw [s2_np (by omega), s2_np (by omega)])
                refine j_callV c kw_X2_116 (sp_forget hp hn.2 K1 hkp.1 F2.2.2.2.1 (fun x hx => ⟨vcall_lt (hkv x hi hx) hpl.2, (vcall_spec (hkv x hi hx)).2⟩) (show m < 13 by omega)) dX2_method_106 rfl rfl (by decide) (Nat.le_of_ble_eq_true rfl) hp.lt0 (lf0 hp) rfl ?_
                rintro _ σ2 ⟨rfl, K2, g1, g2⟩
                refine j_aload_n c dX2_method_109 rfl ?_
                refine j_iconst c (-1) dX2_method_110 (by decide) ?_
                refine j_putI c fl_X2_50 dX2_method_111 (Nat.le_of_ble_eq_true rfl) rfl rfl ?_
                refine j_iload c dX2_method_114 rfl ?_
                have hT : nMeth T i m w (nI j) v = (tn T, tls T, tnf T, tpl T, va_up (ttg T) i (va_up (ttg T i) m (some w)), va_up (tkd T) i (va_up (tkd T i) m (nI j)), va_up (tvl T) i (va_up (tvl T i) m v), tru T, va_up (tkp T) i ((tkp T i).filter (fun c => !le3 (tls T) c w)), thi T, tmi T) := rfl
                have hfil : (tkp T i).filter (fun x => !appB (tls T) (va_up (ttg T i) m (some w)) x m) = (tkp T i).filter (fun c => !le3 (tls T) c w) := List.filter_congr (fun x _ => by
                  unfold appB
                  rw [vu_at]
                  simp only [show m < 13 by omega, decide_true, Bool.true_and])
                rw [hfil] at K2
                have sq : ∀ q, q ≠ 0 → q < 15 + 7 * i ∨ 15 + 7 * i + 7 ≤ q → s2 σ2 0 10 (-1) q = σ q := fun q x1 x2 => by rw [s2_np x1, g1 q (by omega) (by omega), s2_np (by omega), s2_np (by omega), f1 q (by omega) (by omega) (by omega) (by omega)]
                have s0 : ∀ j, j ≠ 10 → s2 σ2 0 10 (-1) 0 j = σ 0 j := fun j x1 => by rw [s2_nk x1, g1 0 (by omega) (by omega), s2_np (by omega), s2_np (by omega), f1 0 (by omega) (by omega) (by omega) (by omega)]
                refine j_iret c r dX2_method_116 rfl ⟨rfl, ?_, fun q hq => sq q (by omega) (by omega)⟩
                show InvX (nMeth T i m w (nI j) v) _
                rw [hT]
                refine InvX.one hX hi h4 rfl rfl rfl rfl rfl (fun g hg => ⟨vu_ne hg, vu_ne hg, vu_ne hg, vu_ne hg⟩) sq (s0 3 (by decide)) (s0 4 (by decide)) ((s0 5 (by decide)).trans hX.2.2.2.1) ((s0 6 (by decide)).trans hX.2.2.2.2.1) ?_ ?_ (fun m' t ht' => ?_) (Or.inl (s2_at _ _ _ _))
                · show FX _ _ _ _ (va_up (ttg T) i (va_up (ttg T i) m (some w)) i) _
                  rw [vu_at]
                  exact F2.keep (by rw [s2_np (by omega)]; exact g2 0 (by decide)) (by rw [s2_np (by omega)]; exact g2 1 (by decide)) (by rw [s2_np (by omega)]; exact g1 _ (by omega) (by omega)) (by rw [s2_np (by omega)]; exact g1 _ (by omega) (by omega)) (by rw [s2_np (by omega)]; exact g1 _ (by omega) (by omega))
                · show KX _ (va_up (tkp T) i ((tkp T i).filter (fun c => !le3 (tls T) c w)) i) _
                  rw [vu_at]
                  exact K2.keep (by rw [s2_np (by omega)]) (by rw [s2_np (by omega)])
                · have ht2 : va_up (ttg T) i (va_up (ttg T i) m (some w)) i m' = some t := ht'
                  show _ = va_up (tkd T) i (va_up (tkd T i) m (nI j)) i m' ∧ _ = va_up (tvl T) i (va_up (tvl T i) m v) i m'
                  rw [vu_at] at ht2 ⊢
                  rw [vu_at]
                  rw [s2_np (by omega), s2_np (by omega), g1 _ (by omega) (by omega), g1 (15 + 7 * i + 3) (by omega) (by omega), s2_np (show 15 + 7 * i + 2 ≠ 15 + 7 * i + 3 by omega)]
                  by_cases em : m' = m
                  · subst em; rw [vu_at, vu_at, s2_at, s2_at]; exact ⟨rfl, rfl⟩
                  · rw [vu_ne em] at ht2 ⊢
                    rw [vu_ne em, s2_nk em, s2_nk em, s2_np (by omega), f1 _ (by omega) (by omega) (by omega) (by omega), f1 (15 + 7 * i + 3) (by omega) (by omega) (by omega) (by omega)]
                    exact hX.2.2.2.2.2.2.2.2.1 i m' t hi ht2
          · exact bad (by unfold okMeth; rw [decide_eq_false z]; simp)
theorem sp_dropX {T : TS} {σ : Sg} (hX : InvX T σ) (hW : WF T) (x y : Int32) : Sp yX2_drop cX2_drop 4 (some .int) 4 [.inr 0, .inl x, .inl y] σ (nX (tDrop T x y) σ (aDrop T x y)) := by
  have h4 := hW.2.2.2.1
  have hn := hW.1
  refine Sp.intro rfl (Nat.le_of_ble_eq_true rfl) (fun Γ c r => ?_)
  show J Γ 0 [some (.inr 0), some (.inl x), some (.inl y), none] [] σ
  refine j_aload_n c dX2_drop_0 rfl ?_
  refine j_iload_n c dX2_drop_1 rfl ?_
  refine j_iload_n c dX2_drop_2 rfl ?_
  refine j_callV1 c kw_X2_120 (sp_hasMethod hX hW x y) dX2_drop_3 rfl rfl (by decide) (Nat.le_of_ble_eq_true rfl) (Nat.le_of_ble_eq_true rfl) rfl rfl ?_
  refine j_if_ne c 11 dX2_drop_6 (by decide) (fun e => ?_) (fun e => ?_)
  · have e2 : okDrop T x y = true := bI_nz e
    have e3 := e2
    unfold okDrop at e3
    simp only [Bool.and_eq_true] at e3
    obtain ⟨i, hi, hi2, rfl⟩ := isN_of e3.1
    obtain ⟨m, hm, hm2, rfl⟩ := isN_of e3.2.1
    have hs := e3.2.2
    rw [nI_clamp hi2, nI_clamp hm2] at hs
    obtain ⟨t, et⟩ := Option.isSome_iff_exists.mp hs
    have ht : tDrop T (nI i) (nI m) = nDrop T i m t := by
      unfold tDrop
      rw [e2, nI_clamp hi2, nI_clamp hm2, et]
      rfl
    have ha : aDrop T (nI i) (nI m) = nI (mMany (nDrop T i m t) i) := by
      unfold aDrop
      rw [e2, ht, nI_clamp hi2]
      rfl
    rw [ha, ht] at r
    have hp : FnP (15 + 7 * i) := FnP.of (by omega)
    have hpl := hW.2.2.2.2.1 i hi
    have hF := hX.2.2.2.2.2.1 i hi
    have hG := GOK.of hW hi
    have hK := hX.2.2.2.2.2.2.2.1 i (by omega)
    have hkp := hW.2.2.2.2.2.2.2.1 i (by omega)
    have hkv := hW.2.2.2.2.2.2.2.2 i
    refine j_aload_n c dX2_drop_11 rfl ?_
    refine j_getR c fl_X2_18 dX2_drop_12 (Nat.le_of_ble_eq_true rfl) rfl rfl ?_
    refine j_iload_n c dX2_drop_15 rfl ?_
    refine j_aald c dX2_drop_16 (Nat.le_of_ble_eq_true rfl) rfl rfl (by omega) (by decide) ?_
    refine j_astore_n c dX2_drop_17 (Nat.le_of_ble_eq_true rfl) rfl ?_
    refine j_aload_n c dX2_drop_18 rfl ?_
    refine j_iload_n c dX2_drop_19 rfl ?_
    refine j_callV c kw_X2_116 (sp_forget hp hn.2 hK hkp.1 hF.2.2.2.1 (fun x hx => ⟨vcall_lt (hkv x hi hx) hpl.2, (vcall_spec (hkv x hi hx)).2⟩) (show m < 13 by omega)) dX2_drop_20 rfl rfl (by decide) (Nat.le_of_ble_eq_true rfl) hp.lt0 (lf0 hp) rfl ?_
    rintro _ σ1 ⟨rfl, K1, f1, f2⟩
    have F1 : FX (tn T) (tls T) (15 + 7 * i) (tpl T i) (ttg T i) σ1 := hF.keep (f2 0 (by decide)) (f2 1 (by decide)) (f1 _ (by omega) (by omega)) (f1 _ (by omega) (by omega)) (f1 _ (by omega) (by omega))
    refine j_aload_n c dX2_drop_23 rfl ?_
    refine j_iload_n c dX2_drop_24 rfl ?_
    refine j_callV c kw_X2_123 (sp_remove hp hW F1 hG (show m < 13 by omega)) dX2_drop_25 rfl rfl (by decide) (Nat.le_of_ble_eq_true rfl) hp.lt0 (lf0 hp) rfl ?_
    rintro _ σ2 ⟨rfl, F2, g1, g2⟩
    have hT : nDrop T i m t = (tn T, tls T, tnf T, tpl T, va_up (ttg T) i (va_up (ttg T i) m none), tkd T, tvl T, tru T, va_up (tkp T) i ((tkp T i).filter (fun c => !le3 (tls T) c t)), thi T, tmi T) := rfl
    have hfil : (tkp T i).filter (fun x => !appB (tls T) (ttg T i) x m) = (tkp T i).filter (fun c => !le3 (tls T) c t) := List.filter_congr (fun x _ => by
      unfold appB
      rw [et]
      simp only [show m < 13 by omega, decide_true, Bool.true_and])
    rw [hfil] at K1
    have hb := used_bits F2.2.1 (fun m' t' h => by
      by_cases em : m' = m
      · subst em; rw [vu_at] at h; cases h
      · rw [vu_ne em] at h; exact (hW.2.2.2.2.2.1 i m' t' hi h).1)
    have hmm : mMany (nDrop T i m t) i = cnt (fun m' => (va_up (ttg T i) m none m').isSome) 12 := by
      show cnt (fun m' => (va_up (ttg T) i (va_up (ttg T i) m none) i m').isSome) 12 = _
      rw [vu_at]
    rw [hmm] at r
    refine j_aload_n c dX2_drop_28 rfl ?_
    refine j_iconst c (-1) dX2_drop_29 (by decide) ?_
    refine j_putI c fl_X2_50 dX2_drop_30 (Nat.le_of_ble_eq_true rfl) rfl rfl ?_
    refine j_aload_n c dX2_drop_33 rfl ?_
    refine j_getI c fl_X2_126 dX2_drop_34 hp.lt0 (lf0 hp) rfl ?_
    rw [s2_np (by omega)]
    refine j_callS1 c kw_X2_129 (sp_bitCount _ hb.1) dX2_drop_37 rfl rfl (by decide) (Nat.le_of_ble_eq_true rfl) ?_
    rw [hb.2]
    have sq : ∀ q, q ≠ 0 → q < 15 + 7 * i ∨ 15 + 7 * i + 7 ≤ q → s2 σ2 0 10 (-1) q = σ q := fun q x1 x2 => by rw [s2_np x1, g1 q (by omega) (by omega) (by omega), f1 q (by omega) (by omega)]
    have s0 : ∀ j, j ≠ 10 → s2 σ2 0 10 (-1) 0 j = σ 0 j := fun j x1 => by rw [s2_nk x1, g1 0 (by omega) (by omega) (by omega), f1 0 (by omega) (by omega)]
    refine j_iret c r dX2_drop_40 rfl ⟨rfl, ?_, fun q hq => sq q (by omega) (by omega)⟩
    rw [hT]
    refine InvX.one hX hi h4 rfl rfl rfl rfl rfl (fun g hg => ⟨vu_ne hg, rfl, rfl, vu_ne hg⟩) sq (s0 3 (by decide)) (s0 4 (by decide)) ((s0 5 (by decide)).trans hX.2.2.2.1) ((s0 6 (by decide)).trans hX.2.2.2.2.1) ?_ ?_ (fun m' t' ht' => ?_) (Or.inl (s2_at _ _ _ _))
    · show FX _ _ _ _ (va_up (ttg T) i (va_up (ttg T i) m none) i) _
      rw [vu_at]
      exact F2.keep (by rw [s2_np (by omega)]) (by rw [s2_np (by omega)]) (by rw [s2_np (by omega)]) (by rw [s2_np (by omega)]) (by rw [s2_np (by omega)])
    · show KX _ (va_up (tkp T) i ((tkp T i).filter (fun c => !le3 (tls T) c t)) i) _
      rw [vu_at]
      exact K1.keep (by rw [s2_np (by omega)]; exact g2 8 (by decide)) (by rw [s2_np (by omega)]; exact g1 _ (by omega) (by omega) (by omega))
    · have ht2 : va_up (ttg T) i (va_up (ttg T i) m none) i m' = some t' := ht'
      rw [vu_at] at ht2
      have em : m' ≠ m := fun em => by subst em; rw [vu_at] at ht2; cases ht2
      rw [vu_ne em] at ht2
      rw [s2_np (by omega), s2_np (by omega), g1 _ (by omega) (by omega) (by omega), g1 (15 + 7 * i + 3) (by omega) (by omega) (by omega), f1 _ (by omega) (by omega), f1 (15 + 7 * i + 3) (by omega) (by omega)]
      exact hX.2.2.2.2.2.2.2.2.1 i m' t' hi ht2
  · have e2 : okDrop T x y = false := bI_z e
    refine j_iconst c (-1) dX2_drop_9 (by decide) ?_
    exact j_iret c r dX2_drop_10 rfl ⟨by simp [aDrop, e2], by simp only [tDrop, e2]; exact hX, frXo.rfl' σ⟩
