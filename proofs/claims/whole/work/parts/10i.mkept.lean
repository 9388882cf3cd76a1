-- ===== 10i: the reference: kept calls, methods that come and go =====
theorem sp_drops {T : TS} {mo : Option (Nat × Nat)} {σ : Sg} (hM : InvM T mo σ) (hW : WF T) {f w : Nat} (hf : f < tnf T) (hw : w < 16 ^ tpl T f) : Sp yX3_drops cX3_drops 5 none 2 [.inr 50, .inl (nI f), .inl (nI w)] σ (fun r σ' => r = none ∧ InvM (dropKp T f w) mo σ' ∧ frMo σ σ' ∧ ∀ q, q ≠ 59 → q ≠ 60 → σ' q = σ q) := by
  have h4 := hW.2.2.2.1
  have hpl := hW.2.2.2.2.1 f hf
  have hl6 := hW.kp f (by omega)
  have h60 := hM.2.2.2.2.2.2.2.2.2.2.1 f (by omega)
  have h59 := hM.2.2.2.2.2.2.2.2.2.2.2.1 f
  refine Sp.intro rfl (Nat.le_of_ble_eq_true rfl) (fun Γ c r => ?_)
  show J Γ 0 [some (.inr 50), some (.inl (nI f)), some (.inl (nI w)), none, none] [] σ
  refine j_iconst c (nI 0) dX3_drops_0 (by decide) ?_
  refine j_istore_n c dX3_drops_1 (Nat.le_of_ble_eq_true rfl) rfl ?_
  refine j_iconst c (nI 0) dX3_drops_2 (by decide) ?_
  refine j_istore c dX3_drops_3 (Nat.le_of_ble_eq_true rfl) rfl ?_
  have key : ∀ k, k ≤ (tkp T f).length → ∀ (D : List Nat) (σ1 : Sg), D = ((tkp T f).take k).filter (fun c => !le3 (tls T) c w) → (∀ q, q ≠ 59 → σ1 q = σ q) → (∀ j c, D[j]? = some c → σ1 59 (6 * f + j) = nI c) → (∀ j c, k ≤ j → (tkp T f)[j]? = some c → σ1 59 (6 * f + j) = nI c) → (∀ i, i < 6 * f ∨ 6 * f + 6 ≤ i → σ1 59 i = σ 59 i) → J Γ 5 [some (.inr 50), some (.inl (nI f)), some (.inl (nI w)), some (.inl (nI D.length)), some (.inl (nI k))] [] σ1 := by
    refine loopN _ ?_ ?_
    · intro D σ1 hD hq hd hr ho
      rw [List.take_length] at hD
      refine j_iload c dX3_drops_5 rfl ?_
      refine j_aload_n c dX3_drops_7 rfl ?_
      refine j_getR c fl_X3_37 dX3_drops_8 (Nat.le_of_ble_eq_true rfl) rfl rfl ?_
      refine j_iload_n c dX3_drops_11 rfl ?_
      refine j_iald c dX3_drops_12 (Nat.le_of_ble_eq_true rfl) rfl rfl (by omega) (by decide) ?_
      rw [hq 60 (by decide), h60]
      refine j_icmp_ge c 69 dX3_drops_13 (by decide) (fun _ => ?_) (fun h => absurd (nI_le (Nat.le_refl _) (by omega)) h)
      refine j_aload_n c dX3_drops_69 rfl ?_
      refine j_getR c fl_X3_37 dX3_drops_70 (Nat.le_of_ble_eq_true rfl) rfl rfl ?_
      refine j_iload_n c dX3_drops_73 rfl ?_
      refine j_iload_n c dX3_drops_74 rfl ?_
      refine j_iast c dX3_drops_75 (Nat.le_of_ble_eq_true rfl) rfl rfl (by omega) (by decide) ?_
      exact j_ret c r dX3_drops_76 ⟨rfl, by
        refine hM.kp h4 hW.kp (fun q h1 h2 => ?_) (fun g hg => ?_) (fun i hi => ?_) (fun j c hj => ?_)
        · rw [s2_np h2]; exact hq q h1
        · by_cases e : g = f
          · subst e; rw [if_pos rfl, s2_at, hD]
          · rw [if_neg e, s2_nk e, hq 60 (by decide)]
        · rw [s2_np (by decide)]; exact ho i hi
        · rw [s2_np (by decide)]; rw [← hD] at hj; exact hd j c hj, fun q hq2 => by rw [s2_np (by omega)]; exact hq q (by omega), fun q h1 h2 => by rw [s2_np h2]; exact hq q h1⟩
    · intro k hk ih D σ1 hD hq hd hr ho
      obtain ⟨a, ha⟩ : ∃ a, (tkp T f)[k]? = some a := ⟨_, List.getElem?_eq_getElem hk⟩
      have hav := hW.2.2.2.2.2.2.2.2 f a hf (List.mem_of_getElem? ha)
      have hal := vcall_lt hav hpl.2
      have hDl : D.length ≤ k := by
        rw [hD]
        have h1 := List.length_filter_le (fun c => !le3 (tls T) c w) ((tkp T f).take k)
        rw [List.length_take] at h1
        omega
      have htk : (tkp T f).take (k + 1) = (tkp T f).take k ++ [a] := by
        rw [List.take_add_one, ha]; rfl
      refine j_iload c dX3_drops_5 rfl ?_
      refine j_aload_n c dX3_drops_7 rfl ?_
      refine j_getR c fl_X3_37 dX3_drops_8 (Nat.le_of_ble_eq_true rfl) rfl rfl ?_
      refine j_iload_n c dX3_drops_11 rfl ?_
      refine j_iald c dX3_drops_12 (Nat.le_of_ble_eq_true rfl) rfl rfl (by omega) (by decide) ?_
      rw [hq 60 (by decide), h60]
      refine j_icmp_ge c 69 dX3_drops_13 (by decide) (fun h => absurd h (nI_ge hk (by omega))) (fun _ => ?_)
      refine j_aload_n c dX3_drops_16 rfl ?_
      refine j_iload_n c dX3_drops_17 rfl ?_
      refine j_aload_n c dX3_drops_18 rfl ?_
      refine j_getR c fl_X3_34 dX3_drops_19 (Nat.le_of_ble_eq_true rfl) rfl rfl ?_
      refine j_bipush c (nI 6) dX3_drops_22 (by decide) ?_
      refine j_iload_n c dX3_drops_24 rfl ?_
      refine j_imul c _ dX3_drops_25 (by first | exact pk_mul _ _ | rfl) ?_
      refine j_iload c dX3_drops_26 rfl ?_
      refine j_iadd c _ dX3_drops_28 (by first | exact nI_add _ _ | rfl) ?_
      refine j_iald c dX3_drops_29 (Nat.le_of_ble_eq_true rfl) rfl rfl (by omega) (by decide) ?_
      rw [hr k a (Nat.le_refl _) ha]
      refine j_iload_n c dX3_drops_30 rfl ?_
      refine j_callV1 c kw_X3_111 (sp_areOf0 hW hf hav hw (by rw [hq 55 (by decide)]; exact hM.2.2.2.2.2.2.1 f hf) (by rw [hq 51 (by decide)]; exact hM.2.1)) dX3_drops_31 rfl rfl (by decide) (Nat.le_of_ble_eq_true rfl) (Nat.le_of_ble_eq_true rfl) rfl rfl ?_
      refine j_if_ne c 63 dX3_drops_34 (by decide) (fun e => ?_) (fun e => ?_)
      · refine j_iinc c _ dX3_drops_63 rfl (by first | exact nI_1 _ | exact pk_m1 _ | rfl) rfl ?_
        refine j_goto c 5 dX3_drops_66 (by decide) ?_
        refine ih D σ1 ?_ hq hd (fun j c hj => hr j c (by omega)) ho
        rw [htk, List.filter_append, ← hD]
        simp [bI_nz e]
      · have e2 := bI_z e
        refine j_aload_n c dX3_drops_37 rfl ?_
        refine j_getR c fl_X3_34 dX3_drops_38 (Nat.le_of_ble_eq_true rfl) rfl rfl ?_
        refine j_bipush c (nI 6) dX3_drops_41 (by decide) ?_
        refine j_iload_n c dX3_drops_43 rfl ?_
        refine j_imul c _ dX3_drops_44 (by first | exact pk_mul _ _ | rfl) ?_
        refine j_iload_n c dX3_drops_45 rfl ?_
        refine j_iadd c _ dX3_drops_46 (by first | exact nI_add _ _ | rfl) ?_
        refine j_aload_n c dX3_drops_47 rfl ?_
        refine j_getR c fl_X3_34 dX3_drops_48 (Nat.le_of_ble_eq_true rfl) rfl rfl ?_
        refine j_bipush c (nI 6) dX3_drops_51 (by decide) ?_
        refine j_iload_n c dX3_drops_53 rfl ?_
        refine j_imul c _ dX3_drops_54 (by first | exact pk_mul _ _ | rfl) ?_
        refine j_iload c dX3_drops_55 rfl ?_
        refine j_iadd c _ dX3_drops_57 (by first | exact nI_add _ _ | rfl) ?_
        refine j_iald c dX3_drops_58 (by first | exact (Nat.le_of_ble_eq_true rfl) | exact hp.lt (by decide)) (by first | exact lf1 hp | exact lf2 hp | exact lf3 hp | exact lf4 hp | exact lf5 hp | exact lf6 hp | rfl) rfl (by omega) (by decide) ?_
        rw [hr k a (Nat.le_refl _) ha]
        refine j_iast c dX3_drops_59 (by first | exact (Nat.le_of_ble_eq_true rfl) | exact hp.lt (by decide)) (by first | exact lf1 hp | exact lf2 hp | exact lf3 hp | exact lf4 hp | exact lf5 hp | exact lf6 hp | rfl) rfl (by omega) (by decide) ?_
        refine j_iinc c _ dX3_drops_60 rfl (by first | exact nI_1 _ | exact pk_m1 _ | rfl) rfl ?_
        refine j_iinc c _ dX3_drops_63 rfl (by first | exact nI_1 _ | exact pk_m1 _ | rfl) rfl ?_
        refine j_goto c 5 dX3_drops_66 (by decide) ?_
        have hl : (D ++ [a]).length = D.length + 1 := by simp
        have ih2 := ih (D ++ [a]) (s2 σ1 59 (6 * f + D.length) (nI a)) (by rw [htk, List.filter_append, ← hD]; simp [e2]) (fun q h => by rw [s2_np h]; exact hq q h) (fun j c hj => by
          by_cases ej : j = D.length
          · subst ej
            rw [List.getElem?_append_right (Nat.le_refl _), Nat.sub_self] at hj
            cases hj
            exact s2_at _ _ _ _
          · rw [s2_nk (by omega)]
            have : j < D.length := by
              have := (List.getElem?_eq_some_iff.mp hj).1
              simp at this
              omega
            rw [List.getElem?_append_left this] at hj
            exact hd j c hj) (fun j c h1 hj => by rw [s2_nk (by omega)]; exact hr j c (by omega) hj) (fun i hi => by rw [s2_nk (by omega)]; exact ho i hi)
        rw [hl] at ih2
        exact ih2
  exact key 0 (Nat.zero_le _) [] σ rfl (fun _ _ => rfl) (fun j c h => by simp at h) (fun j c _ h => h59 j c hf h) (fun _ _ => rfl)
theorem mForE {T : TS} {σ : Sg} (hM : InvM T none σ) (hW : WF T) {f w : Nat} (hf : f < tnf T) (hw : w < 2 ^ 31) : fnd (fun m => decide (σ 56 (12 * f + m) = nI w)) 12 = mFor T f w := by
  unfold mFor
  apply fnd_congr
  intro m hm
  rw [hM.2.2.2.2.2.2.2.1 f m hf hm]
  simp only [decide_eq_decide]
  exact oI_inj (fun t ht => by have := ttg_lt hW hf ht; omega) hw
theorem mFreeE {T : TS} {σ : Sg} (hM : InvM T none σ) (hW : WF T) {f : Nat} (hf : f < tnf T) : fnd (fun m => decide (σ 56 (12 * f + m) = -1)) 12 = mFree T f := by
  unfold mFree
  apply fnd_congr
  intro m hm
  rw [hM.2.2.2.2.2.2.2.1 f m hf hm, Bool.eq_iff_iff]
  simp only [decide_eq_true_eq, Option.isNone_iff_eq_none]
  exact oI_none (fun t ht => by have := ttg_lt hW hf ht; omega)
theorem mFor_no {T : TS} (hW : WF T) {f w : Nat} (hf : f < tnf T) (h : mFor T f w = none) : ∀ m, ttg T f m ≠ some w := fun m e => by
  have h1 := (hW.2.2.2.2.2.1 f m w hf e).1
  have h2 := fnd_none h m h1
  simp [e] at h2
/-- 'method': what it answers, and the state behind -/
def okMeth (T : TS) (f w k v : Int32) : Bool := isC T f w && (isN k 4 && (decide (-999 ≤ v) && decide (v ≤ nI 999)))
def aMeth (T : TS) (f w k v : Int32) : Int32 := if okMeth T f w k v then (match mFree T f.toNatClampNeg with | none => -1 | some m => match mFor T f.toNatClampNeg w.toNatClampNeg with | some _ => -2 | none => nI m) else -1
def tMeth (T : TS) (f w k v : Int32) : TS := if okMeth T f w k v then (match mFree T f.toNatClampNeg with | none => T | some m => match mFor T f.toNatClampNeg w.toNatClampNeg with | some _ => T | none => nMeth T f.toNatClampNeg m w.toNatClampNeg k v) else T
theorem sp_methodM {T : TS} {σ : Sg} (hM : InvM T none σ) (hW : WF T) (x y k v : Int32) : Sp yX3_method cX3_method 6 (some .int) 3 [.inr 50, .inl x, .inl y, .inl k, .inl v] σ (nM (tMeth T x y k v) σ (aMeth T x y k v)) := by
  have h4 := hW.2.2.2.1
  have hM0 := hM.keep (k0 σ (nI 0))
  have fr0 : frMo σ (s2 σ 50 0 (nI 0)) := frMo.s2 (by decide) (by decide)
  refine Sp.intro rfl (Nat.le_of_ble_eq_true rfl) (fun Γ c r => ?_)
  show J Γ 0 [some (.inr 50), some (.inl x), some (.inl y), some (.inl k), some (.inl v), none] [] σ
  have bad : okMeth T x y k v = false → J Γ 37 [some (.inr 50), some (.inl x), some (.inl y), some (.inl k), some (.inl v), none] [] (s2 σ 50 0 (nI 0)) := by
    intro h
    refine j_iconst c (-1) dX3_method_37 (by decide) ?_
    exact j_iret c r dX3_method_38 rfl ⟨by simp [aMeth, h], by simp only [tMeth, h]; exact hM0, fr0⟩
  refine j_aload_n c dX3_method_0 rfl ?_
  refine j_iconst c (nI 0) dX3_method_1 (by decide) ?_
  refine j_putI c fl_X3_65 dX3_method_2 (Nat.le_of_ble_eq_true rfl) rfl rfl ?_
  refine j_aload_n c dX3_method_5 rfl ?_
  refine j_iload_n c dX3_method_6 rfl ?_
  refine j_iload_n c dX3_method_7 rfl ?_
  refine j_callV1 c kw_X3_114 (sp_isCall hM0 hW x y) dX3_method_8 rfl rfl (by decide) (Nat.le_of_ble_eq_true rfl) (Nat.le_of_ble_eq_true rfl) rfl rfl ?_
  refine j_if_eq c 37 dX3_method_11 (by decide) (fun e => ?_) (fun e => ?_)
  · exact bad (by simp [okMeth, bI_z e])
  · have e2 := bI_nz e
    refine j_iload_n c dX3_method_14 rfl ?_
    refine j_iconst c (nI 0) dX3_method_15 (by decide) ?_
    refine j_iconst c (nI 3) dX3_method_16 (by decide) ?_
    refine j_callS1 c kw_X3_68 (sp_inN _ k 4 (by decide) (by decide)) dX3_method_17 rfl rfl (by decide) (Nat.le_of_ble_eq_true rfl) ?_
    refine j_if_eq c 37 dX3_method_20 (by decide) (fun g => ?_) (fun g => ?_)
    · exact bad (by simp [okMeth, bI_z g])
    · have g2 := bI_nz g
      refine j_iload c dX3_method_23 rfl ?_
      refine j_sipush c (-999) dX3_method_25 (by decide) ?_
      refine j_sipush c (nI 999) dX3_method_28 (by decide) ?_
      refine j_callS1 c kw_X3_68 (sp_in _ v (-999) (nI 999)) dX3_method_31 rfl rfl (by decide) (Nat.le_of_ble_eq_true rfl) ?_
      refine j_if_ne c 39 dX3_method_34 (by decide) (fun q => ?_) (fun q => ?_)
      · have q2 := bI_nz q
        have hok : okMeth T x y k v = true := by unfold okMeth; rw [e2, g2, q2]; rfl
        obtain ⟨i, w, hi, rfl, rfl, hv⟩ := isC_of h4 e2
        obtain ⟨j, hj, hj2, rfl⟩ := isN_of g2
        have hpl := hW.2.2.2.2.1 i hi
        have hwl := vcall_lt hv hpl.2
        have ha : aMeth T (nI i) (nI w) (nI j) v = (match mFree T i with | none => -1 | some m => match mFor T i w with | some _ => -2 | none => nI m) := by
          unfold aMeth
          rw [hok, nI_clamp (n := i) (by omega), nI_clamp (n := w) (by omega)]
          rfl
        have ht : tMeth T (nI i) (nI w) (nI j) v = (match mFree T i with | none => T | some m => match mFor T i w with | some _ => T | none => nMeth T i m w (nI j) v) := by
          unfold tMeth
          rw [hok, nI_clamp (n := i) (by omega), nI_clamp (n := w) (by omega)]
          rfl
        rw [ha, ht] at r
        refine j_aload_n c dX3_method_39 rfl ?_
        refine j_iload_n c dX3_method_40 rfl ?_
        refine j_iconst c (-1) dX3_method_41 (by decide) ?_
        refine j_callV1 c kw_X3_117 (sp_methodFor (σ := s2 σ 50 0 (nI 0)) (f := i) (by omega) (-1)) dX3_method_42 rfl rfl (by decide) (Nat.le_of_ble_eq_true rfl) (Nat.le_of_ble_eq_true rfl) rfl rfl ?_
        rw [mFreeE hM0 hW hi]
        cases hfr : mFree T i with
        | none =>
          rw [hfr] at r
          refine j_istore c dX3_method_45 (Nat.le_of_ble_eq_true rfl) rfl ?_
          refine j_iload c dX3_method_47 rfl ?_
          refine j_iconst c (-1) dX3_method_49 (by decide) ?_
          refine j_icmp_ne c 55 dX3_method_50 (by decide) (fun h => absurd (by rfl) h) (fun _ => ?_)
          refine j_iconst c (-1) dX3_method_53 (by decide) ?_
          exact j_iret c r dX3_method_54 rfl ⟨rfl, hM0, fr0⟩
        | some m =>
          rw [hfr] at r
          obtain ⟨hm, hmn, _⟩ := fnd_some hfr
          refine j_istore c dX3_method_45 (Nat.le_of_ble_eq_true rfl) rfl ?_
          refine j_iload c dX3_method_47 rfl ?_
          refine j_iconst c (-1) dX3_method_49 (by decide) ?_
          refine j_icmp_ne c 55 dX3_method_50 (by decide) (fun _ => ?_) (fun h => absurd h (oI_ne (t := m) (by omega)))
          refine j_aload_n c dX3_method_55 rfl ?_
          refine j_iload_n c dX3_method_56 rfl ?_
          refine j_iload_n c dX3_method_57 rfl ?_
          refine j_callV1 c kw_X3_117 (sp_methodFor (σ := s2 σ 50 0 (nI 0)) (f := i) (by omega) (nI w)) dX3_method_58 rfl rfl (by decide) (Nat.le_of_ble_eq_true rfl) (Nat.le_of_ble_eq_true rfl) rfl rfl ?_
          rw [mForE hM0 hW hi (by omega)]
          cases hfo : mFor T i w with
          | some m2 =>
            rw [hfo] at r
            have hm2 := (fnd_some hfo).1
            refine j_iconst c (-1) dX3_method_61 (by decide) ?_
            refine j_icmp_eq c 68 dX3_method_62 (by decide) (fun h => absurd h (oI_ne (t := m2) (by omega))) (fun _ => ?_)
            refine j_bipush c (-2) dX3_method_65 (by decide) ?_
            exact j_iret c r dX3_method_67 rfl ⟨rfl, hM0, fr0⟩
          | none =>
            rw [hfo] at r
            have hno := mFor_no hW hi hfo
            refine j_iconst c (-1) dX3_method_61 (by decide) ?_
            refine j_icmp_eq c 68 dX3_method_62 (by decide) (fun _ => ?_) (fun h => absurd (by rfl) h)
            refine j_aload_n c dX3_method_68 rfl ?_
            refine j_getR c fl_X3_25 dX3_method_69 (Nat.le_of_ble_eq_true rfl) rfl rfl ?_
            refine j_bipush c (nI 12) dX3_method_72 (by decide) ?_
            refine j_iload_n c dX3_method_74 rfl ?_
            refine j_imul c _ dX3_method_75 (by first | exact pk_mul _ _ | rfl) ?_
            refine j_iload c dX3_method_76 rfl ?_
            refine j_iadd c _ dX3_method_78 (by first | exact nI_add _ _ | rfl) ?_
            refine j_iload_n c dX3_method_79 rfl ?_
            refine j_iast c dX3_method_80 (Nat.le_of_ble_eq_true rfl) rfl rfl (by omega) (by decide) ?_
            refine j_aload_n c dX3_method_81 rfl ?_
            refine j_getR c fl_X3_28 dX3_method_82 (Nat.le_of_ble_eq_true rfl) rfl rfl ?_
            refine j_bipush c (nI 12) dX3_method_85 (by decide) ?_
            refine j_iload_n c dX3_method_87 rfl ?_
            refine j_imul c _ dX3_method_88 (by first | exact pk_mul _ _ | rfl) ?_
            refine j_iload c dX3_method_89 rfl ?_
            refine j_iadd c _ dX3_method_91 (by first | exact nI_add _ _ | rfl) ?_
            refine j_iload_n c dX3_method_92 rfl ?_
            refine j_iast c dX3_method_93 (Nat.le_of_ble_eq_true rfl) rfl rfl (by omega) (by decide) ?_
            refine j_aload_n c dX3_method_94 rfl ?_
            refine j_getR c fl_X3_31 dX3_method_95 (Nat.le_of_ble_eq_true rfl) rfl rfl ?_
            refine j_bipush c (nI 12) dX3_method_98 (by decide) ?_
            refine j_iload_n c dX3_method_100 rfl ?_
            refine j_imul c _ dX3_method_101 (by first | exact pk_mul _ _ | rfl) ?_
            refine j_iload c dX3_method_102 rfl ?_
            refine j_iadd c _ dX3_method_104 (by first | exact nI_add _ _ | rfl) ?_
            refine j_iload c dX3_method_105 rfl ?_
            refine j_iast c dX3_method_107 (Nat.le_of_ble_eq_true rfl) rfl rfl (by omega) (by decide) ?_
            refine j_aload_n c dX3_method_108 rfl ?_
            refine j_iload_n c dX3_method_109 rfl ?_
            refine j_iload_n c dX3_method_110 rfl ?_
            have hM1 : InvM (setKv (setTg T i m (some w)) i m (nI j) v) none (s2 (s2 (s2 (s2 σ 50 0 (nI 0)) 56 (12 * i + m) (nI w)) 57 (12 * i + m) (nI j)) 58 (12 * i + m) v) := InvM.kv (InvM.tg (o := some w) hM0 hm) hm
            have hW1 : WF (setKv (setTg T i m (some w)) i m (nI j) v) := hW.meth hm hv hno
            refine j_callV c kw_X3_120 (sp_drops hM1 hW1 (f := i) (w := w) hi (vcall_spec hv).1) dX3_method_111 rfl rfl (by decide) (Nat.le_of_ble_eq_true rfl) (Nat.le_of_ble_eq_true rfl) rfl rfl ?_
            rintro _ σ1 ⟨rfl, hM2, hfr2, -⟩
            refine j_iload c dX3_method_114 rfl ?_
            exact j_iret c r dX3_method_116 rfl ⟨rfl, hM2, fr0.trans (((frMo.s2 (by decide) (by decide)).trans ((frMo.s2 (by decide) (by decide)).trans (frMo.s2 (by decide) (by decide)))).trans hfr2)⟩
      · exact bad (by unfold okMeth; rw [bI_z q]; simp)
/-- 'drop' -/
def okDrop (T : TS) (f m : Int32) : Bool := isN f (tnf T) && (isN m 12 && (ttg T f.toNatClampNeg m.toNatClampNeg).isSome)
def tDrop (T : TS) (f m : Int32) : TS := if okDrop T f m then nDrop T f.toNatClampNeg m.toNatClampNeg ((ttg T f.toNatClampNeg m.toNatClampNeg).getD 0) else T
def mMany (T : TS) (f : Nat) : Nat := cnt (fun m => (ttg T f m).isSome) 12
def aDrop (T : TS) (f m : Int32) : Int32 := if okDrop T f m then nI (mMany (tDrop T f m) f.toNatClampNeg) else -1
theorem bits12 {P : Nat → Bool} : cnt (bt (mkS P 12)) 16 = cnt P 12 := by
  have h1 : cnt (bt (mkS P 12)) 12 = cnt P 12 := cnt_congr (fun m hm => by rw [bt_mkS _ (by decide)]; simp [hm])
  have h2 : ∀ m, 12 ≤ m → bt (mkS P 12) m = false := fun m h => by rw [bt_mkS _ (by decide)]; simp [show ¬ m < 12 by omega]
  show cnt (bt (mkS P 12)) 12 + _ + _ + _ + _ = _
  rw [h2 12 (by omega), h2 13 (by omega), h2 14 (by omega), h2 15 (by omega), h1]
  rfl
theorem setE {T : TS} {σ : Sg} (hM : InvM T none σ) (hW : WF T) {f : Nat} (hf : f < tnf T) : mkS (fun m => !decide (σ 56 (12 * f + m) = -1)) 12 = mkS (fun m => (ttg T f m).isSome) 12 := by
  apply mkS_congr
  intro m hm
  rw [hM.2.2.2.2.2.2.2.1 f m hf hm, Bool.eq_iff_iff]
  have ho : ∀ t, ttg T f m = some t → t < 2 ^ 31 := fun t ht => by have := ttg_lt hW hf ht; omega
  simp [oI_none ho, Option.isSome_iff_ne_none]
theorem sp_dropM {T : TS} {σ : Sg} (hM : InvM T none σ) (hW : WF T) (x y : Int32) : Sp yX3_drop cX3_drop 3 (some .int) 3 [.inr 50, .inl x, .inl y] σ (nM (tDrop T x y) σ (aDrop T x y)) := by
  have h4 := hW.2.2.2.1
  have hM0 := hM.keep (k0 σ (nI 0))
  have fr0 : frMo σ (s2 σ 50 0 (nI 0)) := frMo.s2 (by decide) (by decide)
  refine Sp.intro rfl (Nat.le_of_ble_eq_true rfl) (fun Γ c r => ?_)
  show J Γ 0 [some (.inr 50), some (.inl x), some (.inl y)] [] σ
  refine j_aload_n c dX3_drop_0 rfl ?_
  refine j_iconst c (nI 0) dX3_drop_1 (by decide) ?_
  refine j_putI c fl_X3_65 dX3_drop_2 (Nat.le_of_ble_eq_true rfl) rfl rfl ?_
  refine j_aload_n c dX3_drop_5 rfl ?_
  refine j_iload_n c dX3_drop_6 rfl ?_
  refine j_iload_n c dX3_drop_7 rfl ?_
  refine j_callV1 c kw_X3_123 (sp_isMethod hM0 hW x y) dX3_drop_8 rfl rfl (by decide) (Nat.le_of_ble_eq_true rfl) (Nat.le_of_ble_eq_true rfl) rfl rfl ?_
  refine j_if_ne c 16 dX3_drop_11 (by decide) (fun e => ?_) (fun e => ?_)
  · have e2 : okDrop T x y = true := bI_nz e
    have e3 := e2
    unfold okDrop at e3
    simp only [Bool.and_eq_true] at e3
    obtain ⟨i, hi, hi2, rfl⟩ := isN_of e3.1
    obtain ⟨m, hm, hm2, rfl⟩ := isN_of e3.2.1
    have hs := e3.2.2
    rw [nI_clamp hi2, nI_clamp hm2] at hs
    obtain ⟨t, et⟩ := Option.isSome_iff_exists.mp hs
    have hwt := hW.2.2.2.2.2.1 i m t hi et
    have ht : tDrop T (nI i) (nI m) = nDrop T i m t := by
      unfold tDrop
      rw [e2, nI_clamp hi2, nI_clamp hm2, et]
      rfl
    have ha : aDrop T (nI i) (nI m) = nI (mMany (nDrop T i m t) i) := by
      unfold aDrop
      rw [e2, ht, nI_clamp hi2]
      rfl
    rw [ha, ht] at r
    refine j_aload_n c dX3_drop_16 rfl ?_
    refine j_iload_n c dX3_drop_17 rfl ?_
    refine j_aload_n c dX3_drop_18 rfl ?_
    refine j_getR c fl_X3_25 dX3_drop_19 (Nat.le_of_ble_eq_true rfl) rfl rfl ?_
    refine j_bipush c (nI 12) dX3_drop_22 (by decide) ?_
    refine j_iload_n c dX3_drop_24 rfl ?_
    refine j_imul c _ dX3_drop_25 (by first | exact pk_mul _ _ | rfl) ?_
    refine j_iload_n c dX3_drop_26 rfl ?_
    refine j_iadd c _ dX3_drop_27 (by first | exact nI_add _ _ | rfl) ?_
    refine j_iald c dX3_drop_28 (Nat.le_of_ble_eq_true rfl) rfl rfl (by omega) (by decide) ?_
    rw [hM0.2.2.2.2.2.2.2.1 i m hi hm, et]
    refine j_callV c kw_X3_120 (sp_drops hM0 hW hi (vcall_spec hwt.2.1).1) dX3_drop_29 rfl rfl (by decide) (Nat.le_of_ble_eq_true rfl) (Nat.le_of_ble_eq_true rfl) rfl rfl ?_
    rintro _ σ1 ⟨rfl, hM1, hf1, -⟩
    have hM2 : InvM (nDrop T i m t) none (s2 σ1 56 (12 * i + m) (-1)) := InvM.tg (o := none) hM1 hm
    have hW2 : WF (nDrop T i m t) := (hW.drop hi).less
    refine j_aload_n c dX3_drop_32 rfl ?_
    refine j_getR c fl_X3_25 dX3_drop_33 (Nat.le_of_ble_eq_true rfl) rfl rfl ?_
    refine j_bipush c (nI 12) dX3_drop_36 (by decide) ?_
    refine j_iload_n c dX3_drop_38 rfl ?_
    refine j_imul c _ dX3_drop_39 (by first | exact pk_mul _ _ | rfl) ?_
    refine j_iload_n c dX3_drop_40 rfl ?_
    refine j_iadd c _ dX3_drop_41 (by first | exact nI_add _ _ | rfl) ?_
    refine j_iconst c (-1) dX3_drop_42 (by decide) ?_
    refine j_iast c dX3_drop_43 (Nat.le_of_ble_eq_true rfl) rfl rfl (by omega) (by decide) ?_
    refine j_aload_n c dX3_drop_44 rfl ?_
    refine j_iload_n c dX3_drop_45 rfl ?_
    refine j_callV1 c kw_X3_126 (sp_methodsOf (σ := s2 σ1 56 (12 * i + m) (-1)) (f := i) (by omega)) dX3_drop_46 rfl rfl (by decide) (Nat.le_of_ble_eq_true rfl) (Nat.le_of_ble_eq_true rfl) rfl rfl ?_
    rw [setE hM2 hW2 hi]
    refine j_callS1 c kw_X3_130 (sp_bits _ _) dX3_drop_49 rfl rfl (by decide) (Nat.le_of_ble_eq_true rfl) ?_
    rw [bits12]
    exact j_iret c r dX3_drop_52 rfl ⟨rfl, hM2, fr0.trans (hf1.trans (frMo.s2 (by decide) (by decide)))⟩
  · have e2 : okDrop T x y = false := bI_z e
    refine j_iconst c (-1) dX3_drop_14 (by decide) ?_
    exact j_iret c r dX3_drop_15 rfl ⟨by simp [aDrop, e2], by simp only [tDrop, e2]; exact hM0, fr0⟩
