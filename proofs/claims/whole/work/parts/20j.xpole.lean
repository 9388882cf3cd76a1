-- ===== 20j: the class: poles, tables =====
def nfp (near far p : Nat) : Prop := (p = 0 ∧ near = 1 ∧ far = 2) ∨ (p = 1 ∧ near = 0 ∧ far = 2) ∨ (p = 2 ∧ near = 0 ∧ far = 1)
def mkC (near far p i j o : Nat) : Nat := i * 16 ^ far + j * 16 ^ near + o * 16 ^ p
theorem mkC_dg {near far p i j o : Nat} (h : nfp near far p) (hi : i < 16) (hj : j < 16) (ho : o < 16) : mkC near far p i j o < 4096 ∧ dg (mkC near far p i j o) far = i ∧ dg (mkC near far p i j o) near = j ∧ dg (mkC near far p i j o) p = o := by
  unfold mkC
  rcases h with ⟨rfl, rfl, rfl⟩ | ⟨rfl, rfl, rfl⟩ | ⟨rfl, rfl, rfl⟩
  · have e : i * 16 ^ 2 + j * 16 ^ 1 + o * 16 ^ 0 = o + 16 * j + 256 * i := by simp only [Nat.pow_zero, Nat.pow_one, show (16 : Nat) ^ 2 = 256 from rfl]; omega
    rw [e]
    obtain ⟨a, b, d⟩ := dg_mk ho hj hi
    exact ⟨by omega, d, b, a⟩
  · have e : i * 16 ^ 2 + j * 16 ^ 0 + o * 16 ^ 1 = j + 16 * o + 256 * i := by simp only [Nat.pow_zero, Nat.pow_one, show (16 : Nat) ^ 2 = 256 from rfl]; omega
    rw [e]
    obtain ⟨a, b, d⟩ := dg_mk hj ho hi
    exact ⟨by omega, d, a, b⟩
  · have e : i * 16 ^ 1 + j * 16 ^ 0 + o * 16 ^ 2 = j + 16 * i + 256 * o := by simp only [Nat.pow_zero, Nat.pow_one, show (16 : Nat) ^ 2 = 256 from rfl]; omega
    rw [e]
    obtain ⟨a, b, d⟩ := dg_mk hj hi ho
    exact ⟨by omega, b, a, d⟩
theorem mkC_of {near far p x : Nat} (h : nfp near far p) (hx : x < 4096) : mkC near far p (dg x far) (dg x near) (dg x p) = x := by
  have e := dg3 x hx
  unfold mkC
  rcases h with ⟨rfl, rfl, rfl⟩ | ⟨rfl, rfl, rfl⟩ | ⟨rfl, rfl, rfl⟩ <;> simp only [Nat.pow_zero, Nat.pow_one, show (16 : Nat) ^ 2 = 256 from rfl] <;> omega
theorem mkC_rep {near far p i j o o' : Nat} (h : nfp near far p) (hi : i < 16) (hj : j < 16) (ho : o < 16) : rep (mkC near far p i j o) p o' = mkC near far p i j o' := by
  unfold rep
  rw [(mkC_dg h hi hj ho).2.2.2]
  unfold mkC
  rw [Nat.add_sub_cancel]
theorem mkC_v {near far p i j o n pl : Nat} (h : nfp near far p) (hpl : 1 ≤ pl ∧ pl ≤ 3) (hp : p < pl) (hn1 : 1 ≤ n) (hn : n ≤ 16) (hi : i < n) (hi0 : pl ≤ far → i = 0) (hj : j < n) (hj0 : pl ≤ near → j = 0) (ho : o < n) : vcall n pl (mkC near far p i j o) = true := by
  obtain ⟨m1, m2, m3, m4⟩ := mkC_dg h (show i < 16 by omega) (show j < 16 by omega) (show o < 16 by omega)
  refine vcall_of ?_ hpl.2 hn1 (fun q hq => ?_)
  · unfold mkC
    rcases h with ⟨rfl, rfl, rfl⟩ | ⟨rfl, rfl, rfl⟩ | ⟨rfl, rfl, rfl⟩ <;> rcases (show pl = 1 ∨ pl = 2 ∨ pl = 3 by omega) with rfl | rfl | rfl <;> simp only [Nat.pow_zero, Nat.pow_one, show (16 : Nat) ^ 2 = 256 from rfl, show (16 : Nat) ^ 3 = 4096 from rfl] <;> omega
  · have hc : q = far ∨ q = near ∨ q = p := by
      rcases h with ⟨rfl, rfl, rfl⟩ | ⟨rfl, rfl, rfl⟩ | ⟨rfl, rfl, rfl⟩ <;> omega
    rcases hc with rfl | rfl | rfl
    · rw [m2]; exact hi
    · rw [m3]; exact hj
    · rw [m4]; exact ho
theorem shl4 {a p : Nat} (ha : a < 16) (hp : p < 3) : nI a <<< (nI (4 * p) &&& 31) = nI (a * 16 ^ p) := by
  have key : ∀ (a : Fin 16) (p : Fin 3), nI a.val <<< (nI (4 * p.val) &&& 31) = nI (a.val * 16 ^ p.val) := by decide +kernel
  exact key ⟨a, ha⟩ ⟨p, hp⟩
theorem sp_areAlikeX {T : TS} {σ : Sg} (hW : WF T) {f : Nat} (hf : f < tnf T) (h1 : σ 1 0 = nI (tn T)) (h0 : σ (15 + 7 * f) 0 = nI (tpl T f)) (hans : ∀ c, vcall (tn T) (tpl T f) c = true → σ 13 c = ansI (tls T) (ttg T f) (tru T) c) {p one other : Nat} (hpp : p < tpl T f) (ho : one < tn T) (ho' : other < tn T) : Sp yX2_areAlike cX2_areAlike 12 (some .boolean) 0 [.inr 0, .inr (15 + 7 * f), .inl (nI p), .inl (nI one), .inl (nI other)] σ (rt σ (.inl (bI (alB (rowA T f none (tru T)) (16 ^ tpl T f) p other one)))) := by
  have h4 := hW.2.2.2.1
  have hn := hW.1
  have hpl := hW.2.2.2.2.1 f hf
  have hp : FnP (15 + 7 * f) := FnP.of (by omega)
  refine Sp.intro rfl (Nat.le_of_ble_eq_true rfl) (fun Γ c r => ?_)
  show J Γ 0 [some (.inr 0), some (.inr (15 + 7 * f)), some (.inl (nI p)), some (.inl (nI one)), some (.inl (nI other)), none, none, none, none, none, none, none] [] σ
  have loop : ∀ near far nE fE : Nat, nfp near far p → nE = (if near < tpl T f then tn T else 1) → fE = (if far < tpl T f then tn T else 1) → J Γ 67 [some (.inr 0), some (.inr (15 + 7 * f)), some (.inl (nI p)), some (.inl (nI one)), some (.inl (nI other)), some (.inl (nI near)), some (.inl (nI far)), some (.inl (nI nE)), some (.inl (nI fE)), none, none, none] [] σ := by
    intro near far nE fE hh hnE hfE
    have hn3 : near < 3 ∧ far < 3 ∧ p < 3 := by rcases hh with ⟨rfl, rfl, rfl⟩ | ⟨rfl, rfl, rfl⟩ | ⟨rfl, rfl, rfl⟩ <;> omega
    have nEb : nE ≤ tn T ∧ (tpl T f ≤ near → nE = 1) := by
      rw [hnE]
      split
      · exact ⟨Nat.le_refl _, fun h => by omega⟩
      · exact ⟨hn.1, fun _ => rfl⟩
    have fEb : fE ≤ tn T ∧ (tpl T f ≤ far → fE = 1) := by
      rw [hfE]
      split
      · exact ⟨Nat.le_refl _, fun h => by omega⟩
      · exact ⟨hn.1, fun _ => rfl⟩
    have hval : ∀ i j o, i < fE → j < nE → o < tn T → vcall (tn T) (tpl T f) (mkC near far p i j o) = true := fun i j o hi hj h => mkC_v hh hpl hpp hn.1 hn.2 (by omega) (fun h => by have := fEb.2 h; omega) (by omega) (fun h => by have := nEb.2 h; omega) h
    have hrow : ∀ x, vcall (tn T) (tpl T f) x = true → rowA T f none (tru T) x = σ 13 x := fun x hx => by
      unfold rowA
      rw [if_pos hx, hans x hx]
      rfl
    refine j_iconst c (nI 0) dX2_areAlike_67 (by decide) ?_
    refine j_istore c dX2_areAlike_68 (Nat.le_of_ble_eq_true rfl) rfl ?_
    have outer : ∀ i, i ≤ fE → (∀ i' j', i' < i → j' < nE → σ 13 (mkC near far p i' j' one) = σ 13 (mkC near far p i' j' other)) → ∀ u v : Option PV, J Γ 70 [some (.inr 0), some (.inr (15 + 7 * f)), some (.inl (nI p)), some (.inl (nI one)), some (.inl (nI other)), some (.inl (nI near)), some (.inl (nI far)), some (.inl (nI nE)), some (.inl (nI fE)), some (.inl (nI i)), u, v] [] σ := by
      refine loopN _ ?_ ?_
      · intro ha u v
        refine j_iload c dX2_areAlike_70 rfl ?_
        refine j_iload c dX2_areAlike_72 rfl ?_
        refine j_icmp_ge c 148 dX2_areAlike_74 (by decide) (fun _ => ?_) (fun h_9 => absurd (nI_le (Nat.le_refl _) (by omega)) h_9)
        refine j_iconst c (nI 1) dX2_areAlike_148 (by decide) ?_
        exact j_iret c r dX2_areAlike_149 rfl (rtT (by
          refine allU.mpr (fun x hx => ?_)
          by_cases hv : vcall (tn T) (tpl T f) x = true
          · by_cases hd : dg x p = other
            · have hxl := vcall_lt hv hpl.2
              have e := mkC_of hh hxl
              rw [hd] at e
              have d1 : dg x far < fE := by
                rw [hfE]
                split
                · exact vcall_dg hv hpl.2 hn.1
                · rw [dg_hi hx (by omega)]; omega
              have d2 : dg x near < nE := by
                rw [hnE]
                split
                · exact vcall_dg hv hpl.2 hn.1
                · rw [dg_hi hx (by omega)]; omega
              have e2 : rep x p one = mkC near far p (dg x far) (dg x near) one := by
                conv => lhs; rw [← e]
                exact mkC_rep hh (dg_lt _ _) (dg_lt _ _) (by omega)
              have e3 := ha (dg x far) (dg x near) d1 d2
              rw [e] at e3
              rw [e2, hrow x hv, hrow _ (hval _ _ _ d1 d2 ho), e3]
              simp
            · simp [hd]
          · have : rowA T f none (tru T) x = -3 := by unfold rowA; rw [if_neg hv]
            simp [this]))
      · intro i hi ih ha u v
        refine j_iload c dX2_areAlike_70 rfl ?_
        refine j_iload c dX2_areAlike_72 rfl ?_
        refine j_icmp_ge c 148 dX2_areAlike_74 (by decide) (fun h_9 => absurd h_9 (nI_ge hi (by omega))) (fun _ => ?_)
        refine j_iconst c (nI 0) dX2_areAlike_77 (by decide) ?_
        refine j_istore c dX2_areAlike_78 (Nat.le_of_ble_eq_true rfl) rfl ?_
        have inner : ∀ j, j ≤ nE → (∀ j', j' < j → σ 13 (mkC near far p i j' one) = σ 13 (mkC near far p i j' other)) → ∀ v : Option PV, J Γ 80 [some (.inr 0), some (.inr (15 + 7 * f)), some (.inl (nI p)), some (.inl (nI one)), some (.inl (nI other)), some (.inl (nI near)), some (.inl (nI far)), some (.inl (nI nE)), some (.inl (nI fE)), some (.inl (nI i)), some (.inl (nI j)), v] [] σ := by
          refine loopN _ ?_ ?_
          · intro hb v
            refine j_iload c dX2_areAlike_80 rfl ?_
            refine j_iload c dX2_areAlike_82 rfl ?_
            refine j_icmp_ge c 142 dX2_areAlike_84 (by decide) (fun _ => ?_) (fun h_9 => absurd (nI_le (Nat.le_refl _) (by omega)) h_9)
            refine j_iinc c _ dX2_areAlike_142 rfl (by first | exact nI_1 _ | exact pk_m1 _ | rfl) rfl ?_
            refine j_goto c 70 dX2_areAlike_145 (by decide) ?_
            refine ih (fun i' j' hi' hj' => ?_) _ _
            by_cases e : i' = i
            · subst e; exact hb j' hj'
            · exact ha i' j' (by omega) hj'
          · intro j hj ihj hb v
            have m1 := mkC_dg hh (show i < 16 by omega) (show j < 16 by omega) (show one < 16 by omega)
            have m2 := mkC_dg hh (show i < 16 by omega) (show j < 16 by omega) (show other < 16 by omega)
            have hm1 := m1.1
            have hm2 := m2.1
            unfold mkC at hm1 hm2
            refine j_iload c dX2_areAlike_80 rfl ?_
            refine j_iload c dX2_areAlike_82 rfl ?_
            refine j_icmp_ge c 142 dX2_areAlike_84 (by decide) (fun h_9 => absurd h_9 (nI_ge hj (by omega))) (fun _ => ?_)
            refine j_iload c dX2_areAlike_87 rfl ?_
            refine j_iconst c (nI 4) dX2_areAlike_89 (by decide) ?_
            refine j_iload c dX2_areAlike_90 rfl ?_
            refine j_imul c _ dX2_areAlike_92 (by first | exact pk_mul _ _ | rfl) ?_
            refine j_ishl c _ dX2_areAlike_93 (shl4 (by omega) hn3.2.1) ?_
            refine j_iload c dX2_areAlike_94 rfl ?_
            refine j_iconst c (nI 4) dX2_areAlike_96 (by decide) ?_
            refine j_iload c dX2_areAlike_97 rfl ?_
            refine j_imul c _ dX2_areAlike_99 (by first | exact pk_mul _ _ | rfl) ?_
            refine j_ishl c _ dX2_areAlike_100 (shl4 (by omega) hn3.1) ?_
            refine j_iadd c _ dX2_areAlike_101 (by first | exact nI_add _ _ | rfl) ?_
            refine j_istore c dX2_areAlike_102 (Nat.le_of_ble_eq_true rfl) rfl ?_
            refine j_aload_n c dX2_areAlike_104 rfl ?_
            refine j_getR c fl_X2_47 dX2_areAlike_105 (Nat.le_of_ble_eq_true rfl) rfl rfl ?_
            refine j_iload c dX2_areAlike_108 rfl ?_
            refine j_iload_n c dX2_areAlike_110 rfl ?_
            refine j_iconst c (nI 4) dX2_areAlike_111 (by decide) ?_
            refine j_iload_n c dX2_areAlike_112 rfl ?_
            refine j_imul c _ dX2_areAlike_113 (by first | exact pk_mul _ _ | rfl) ?_
            refine j_ishl c _ dX2_areAlike_114 (shl4 (by omega) hn3.2.2) ?_
            refine j_iadd c _ dX2_areAlike_115 (by first | exact nI_add _ _ | rfl) ?_
            refine j_iald c dX2_areAlike_116 (Nat.le_of_ble_eq_true rfl) rfl rfl (by omega) (by decide) ?_
            refine j_aload_n c dX2_areAlike_117 rfl ?_
            refine j_getR c fl_X2_47 dX2_areAlike_118 (Nat.le_of_ble_eq_true rfl) rfl rfl ?_
            refine j_iload c dX2_areAlike_121 rfl ?_
            refine j_iload c dX2_areAlike_123 rfl ?_
            refine j_iconst c (nI 4) dX2_areAlike_125 (by decide) ?_
            refine j_iload_n c dX2_areAlike_126 rfl ?_
            refine j_imul c _ dX2_areAlike_127 (by first | exact pk_mul _ _ | rfl) ?_
            refine j_ishl c _ dX2_areAlike_128 (shl4 (by omega) hn3.2.2) ?_
            refine j_iadd c _ dX2_areAlike_129 (by first | exact nI_add _ _ | rfl) ?_
            refine j_iald c dX2_areAlike_130 (Nat.le_of_ble_eq_true rfl) rfl rfl (by omega) (by decide) ?_
            refine j_icmp_eq c 136 dX2_areAlike_131 (by decide) (fun e => ?_) (fun e => ?_)
            · refine j_iinc c _ dX2_areAlike_136 rfl (by first | exact nI_1 _ | exact pk_m1 _ | rfl) rfl ?_
              refine j_goto c 80 dX2_areAlike_139 (by decide) ?_
              refine ihj (fun j' hj' => ?_) _
              by_cases ej : j' = j
              · subst ej; exact e
              · exact hb j' (by omega)
            · refine j_iconst c (nI 0) dX2_areAlike_134 (by decide) ?_
              exact j_iret c r dX2_areAlike_135 rfl (rtF (by
                cases hal : alB (rowA T f none (tru T)) (16 ^ tpl T f) p other one with
                | false => rfl
                | true =>
                  have hv1 := hval i j one hi hj ho
                  have hv2 := hval i j other hi hj ho'
                  have h5 := allU.mp hal (mkC near far p i j other) (vcall_spec hv2).1
                  rw [m2.2.2.2, mkC_rep hh (by omega) (by omega) (by omega), hrow _ hv2, hrow _ hv1, hans _ hv2] at h5
                  simp only [decide_true, Bool.not_true, Bool.false_or, Bool.or_eq_true, decide_eq_true_eq] at h5
                  rcases h5 with h5 | h5
                  · exact absurd h5 (ansI_ne3 _ _ _ _)
                  · rw [← hans _ hv2] at h5
                    exact absurd h5.symm e))
        exact inner 0 (Nat.zero_le _) (fun j' h => by omega) _
    exact outer 0 (Nat.zero_le _) (fun i' j' h => by omega) none none
  have ends : ∀ near far : Nat, nfp near far p → J Γ 23 [some (.inr 0), some (.inr (15 + 7 * f)), some (.inl (nI p)), some (.inl (nI one)), some (.inl (nI other)), some (.inl (nI near)), some (.inl (nI far)), none, none, none, none, none] [] σ := by
    intro near far hh
    have hn3 : near < 3 ∧ far < 3 := by rcases hh with ⟨rfl, rfl, rfl⟩ | ⟨rfl, rfl, rfl⟩ | ⟨rfl, rfl, rfl⟩ <;> omega
    have e2 : ∀ nE : Nat, nE = (if near < tpl T f then tn T else 1) → J Γ 43 [some (.inr 0), some (.inr (15 + 7 * f)), some (.inl (nI p)), some (.inl (nI one)), some (.inl (nI other)), some (.inl (nI near)), some (.inl (nI far)), none, none, none, none, none] [.inl (nI nE)] σ := by
      intro nE hnE
      refine j_istore c dX2_areAlike_43 (Nat.le_of_ble_eq_true rfl) rfl ?_
      refine j_iload c dX2_areAlike_45 rfl ?_
      refine j_aload_n c dX2_areAlike_47 rfl ?_
      refine j_getI c fl_X2_93 dX2_areAlike_48 hp.lt0 (lf0 hp) rfl ?_
      rw [h0]
      refine j_icmp_ge c 64 dX2_areAlike_51 (by decide) (fun e => ?_) (fun e => ?_)
      · rw [nI_leI (by omega) (by omega)] at e
        refine j_iconst c (nI 1) dX2_areAlike_64 (by decide) ?_
        refine j_istore c dX2_areAlike_65 (Nat.le_of_ble_eq_true rfl) rfl ?_
        exact loop near far nE 1 hh hnE (by rw [if_neg (by omega)])
      · rw [nI_leI (by omega) (by omega)] at e
        refine j_aload_n c dX2_areAlike_54 rfl ?_
        refine j_getR c fl_X2_12 dX2_areAlike_55 (Nat.le_of_ble_eq_true rfl) rfl rfl ?_
        refine j_getI c fl_X2_57 dX2_areAlike_58 (Nat.le_of_ble_eq_true rfl) rfl rfl ?_
        rw [h1]
        refine j_goto c 65 dX2_areAlike_61 (by decide) ?_
        refine j_istore c dX2_areAlike_65 (Nat.le_of_ble_eq_true rfl) rfl ?_
        exact loop near far nE (tn T) hh hnE (by rw [if_pos (by omega)])
    refine j_iload c dX2_areAlike_23 rfl ?_
    refine j_aload_n c dX2_areAlike_25 rfl ?_
    refine j_getI c fl_X2_93 dX2_areAlike_26 hp.lt0 (lf0 hp) rfl ?_
    rw [h0]
    refine j_icmp_ge c 42 dX2_areAlike_29 (by decide) (fun e => ?_) (fun e => ?_)
    · rw [nI_leI (by omega) (by omega)] at e
      refine j_iconst c (nI 1) dX2_areAlike_42 (by decide) ?_
      exact e2 1 (by rw [if_neg (by omega)])
    · rw [nI_leI (by omega) (by omega)] at e
      refine j_aload_n c dX2_areAlike_32 rfl ?_
      refine j_getR c fl_X2_12 dX2_areAlike_33 (Nat.le_of_ble_eq_true rfl) rfl rfl ?_
      refine j_getI c fl_X2_57 dX2_areAlike_36 (Nat.le_of_ble_eq_true rfl) rfl rfl ?_
      rw [h1]
      refine j_goto c 43 dX2_areAlike_39 (by decide) ?_
      exact e2 (tn T) (by rw [if_pos (by omega)])
  rcases (show p = 0 ∨ p = 1 ∨ p = 2 by omega) with rfl | rfl | rfl
  · refine j_iload_n c dX2_areAlike_0 rfl ?_
    refine j_if_ne c 8 dX2_areAlike_1 (by decide) (fun h_9 => absurd (by rfl) h_9) (fun _ => ?_)
    refine j_iconst c (nI 1) dX2_areAlike_4 (by decide) ?_
    refine j_goto c 9 dX2_areAlike_5 (by decide) ?_
    refine j_istore c dX2_areAlike_9 (Nat.le_of_ble_eq_true rfl) rfl ?_
    refine j_iload_n c dX2_areAlike_11 rfl ?_
    refine j_iconst c (nI 2) dX2_areAlike_12 (by decide) ?_
    refine j_icmp_ne c 20 dX2_areAlike_13 (by decide) (fun _ => ?_) (fun h_9 => absurd h_9 (by decide))
    refine j_iconst c (nI 2) dX2_areAlike_20 (by decide) ?_
    refine j_istore c dX2_areAlike_21 (Nat.le_of_ble_eq_true rfl) rfl ?_
    exact ends 1 2 (Or.inl ⟨rfl, rfl, rfl⟩)
  · refine j_iload_n c dX2_areAlike_0 rfl ?_
    refine j_if_ne c 8 dX2_areAlike_1 (by decide) (fun _ => ?_) (fun h_9 => absurd h_9 (by decide))
    refine j_iconst c (nI 0) dX2_areAlike_8 (by decide) ?_
    refine j_istore c dX2_areAlike_9 (Nat.le_of_ble_eq_true rfl) rfl ?_
    refine j_iload_n c dX2_areAlike_11 rfl ?_
    refine j_iconst c (nI 2) dX2_areAlike_12 (by decide) ?_
    refine j_icmp_ne c 20 dX2_areAlike_13 (by decide) (fun _ => ?_) (fun h_9 => absurd h_9 (by decide))
    refine j_iconst c (nI 2) dX2_areAlike_20 (by decide) ?_
    refine j_istore c dX2_areAlike_21 (Nat.le_of_ble_eq_true rfl) rfl ?_
    exact ends 0 2 (Or.inr (Or.inl ⟨rfl, rfl, rfl⟩))
  · refine j_iload_n c dX2_areAlike_0 rfl ?_
    refine j_if_ne c 8 dX2_areAlike_1 (by decide) (fun _ => ?_) (fun h_9 => absurd h_9 (by decide))
    refine j_iconst c (nI 0) dX2_areAlike_8 (by decide) ?_
    refine j_istore c dX2_areAlike_9 (Nat.le_of_ble_eq_true rfl) rfl ?_
    refine j_iload_n c dX2_areAlike_11 rfl ?_
    refine j_iconst c (nI 2) dX2_areAlike_12 (by decide) ?_
    refine j_icmp_ne c 20 dX2_areAlike_13 (by decide) (fun h_9 => absurd (by rfl) h_9) (fun _ => ?_)
    refine j_iconst c (nI 1) dX2_areAlike_16 (by decide) ?_
    refine j_goto c 21 dX2_areAlike_17 (by decide) ?_
    refine j_istore c dX2_areAlike_21 (Nat.le_of_ble_eq_true rfl) rfl ?_
    exact ends 0 1 (Or.inr (Or.inr ⟨rfl, rfl, rfl⟩))
theorem alX_self {A : Nat → Int32} {N p k : Nat} : alB A N p k k = true := by
  refine allU.mpr (fun c _ => ?_)
  by_cases h : dg c p = k
  · have : rep c p k = c := by rw [← h]; exact rep_self
    simp [this]
  · simp [h]
theorem sp_leastAlike {T : TS} {σ : Sg} (hW : WF T) {f : Nat} (hf : f < tnf T) (h1 : σ 1 0 = nI (tn T)) (h0 : σ (15 + 7 * f) 0 = nI (tpl T f)) (hans : ∀ c, vcall (tn T) (tpl T f) c = true → σ 13 c = ansI (tls T) (ttg T f) (tru T) c) {p k : Nat} (hpp : p < tpl T f) (hk : k < tn T) : Sp yX2_leastAlike cX2_leastAlike 5 (some .int) 1 [.inr 0, .inr (15 + 7 * f), .inl (nI p), .inl (nI k)] σ (rt σ (.inl (oI (fnd (alB (rowA T f none (tru T)) (16 ^ tpl T f) p k) (k + 1))))) := by
  have hn := hW.1
  refine Sp.intro rfl (Nat.le_of_ble_eq_true rfl) (fun Γ c r => ?_)
  show J Γ 0 [some (.inr 0), some (.inr (15 + 7 * f)), some (.inl (nI p)), some (.inl (nI k)), none] [] σ
  refine j_iconst c (nI 0) dX2_leastAlike_0 (by decide) ?_
  refine j_istore c dX2_leastAlike_1 (Nat.le_of_ble_eq_true rfl) rfl ?_
  have key : ∀ j, j ≤ k → (∀ i, i < j → alB (rowA T f none (tru T)) (16 ^ tpl T f) p k i = false) → J Γ 3 [some (.inr 0), some (.inr (15 + 7 * f)), some (.inl (nI p)), some (.inl (nI k)), some (.inl (nI j))] [] σ := by
    refine loopN _ ?_ ?_
    · intro hno
      refine j_iload c dX2_leastAlike_3 rfl ?_
      refine j_iload_n c dX2_leastAlike_5 rfl ?_
      refine j_icmp_ge c 30 dX2_leastAlike_6 (by decide) (fun _ => ?_) (fun h_9 => absurd (nI_le (Nat.le_refl _) (by omega)) h_9)
      refine j_iload_n c dX2_leastAlike_30 rfl ?_
      exact j_iret c r dX2_leastAlike_31 rfl ⟨by rw [fnd_hit (Nat.lt_succ_self k) alX_self hno]; rfl, rfl⟩
    · intro j hj ih hno
      refine j_iload c dX2_leastAlike_3 rfl ?_
      refine j_iload_n c dX2_leastAlike_5 rfl ?_
      refine j_icmp_ge c 30 dX2_leastAlike_6 (by decide) (fun h_9 => absurd h_9 (nI_ge hj (by omega))) (fun _ => ?_)
      refine j_aload_n c dX2_leastAlike_9 rfl ?_
      refine j_aload_n c dX2_leastAlike_10 rfl ?_
      refine j_iload_n c dX2_leastAlike_11 rfl ?_
      refine j_iload c dX2_leastAlike_12 rfl ?_
      refine j_iload_n c dX2_leastAlike_14 rfl ?_
      refine j_callV1 c kw_X2_246 (sp_areAlikeX hW hf h1 h0 hans hpp (show j < tn T by omega) hk) dX2_leastAlike_15 rfl rfl (by decide) (Nat.le_of_ble_eq_true rfl) (Nat.le_of_ble_eq_true rfl) rfl rfl ?_
      refine j_if_eq c 24 dX2_leastAlike_18 (by decide) (fun e => ?_) (fun e => ?_)
      · refine j_iinc c _ dX2_leastAlike_24 rfl (by first | exact nI_1 _ | exact pk_m1 _ | rfl) rfl ?_
        refine j_goto c 3 dX2_leastAlike_27 (by decide) ?_
        refine ih (fun i hi => ?_)
        by_cases ei : i = j
        · subst ei; exact bI_z e
        · exact hno i (by omega)
      · refine j_iload c dX2_leastAlike_21 rfl ?_
        exact j_iret c r dX2_leastAlike_23 rfl ⟨by rw [fnd_hit (by omega) (bI_nz e) hno]; rfl, rfl⟩
  exact key 0 (Nat.zero_le _) (fun i hi => by omega)
theorem sp_tableSize {T : TS} {σ : Sg} (hX : InvX T σ) (hW : WF T) {f : Nat} (hf : f < tnf T) : Sp yX2_tableSize cX2_tableSize 7 (some .int) 5 [.inr 0, .inl (nI f)] σ (fun r σ' => r = some (.inl (nI (szQ (rowA T f none (tru T)) (16 ^ tpl T f) (tn T) (tpl T f)))) ∧ filP T f σ σ') := by
  have h4 := hW.2.2.2.1
  have hn := hW.1
  have hpl := hW.2.2.2.2.1 f hf
  have hp : FnP (15 + 7 * f) := FnP.of (by omega)
  refine Sp.intro rfl (Nat.le_of_ble_eq_true rfl) (fun Γ c r => ?_)
  show J Γ 0 [some (.inr 0), some (.inl (nI f)), none, none, none, none, none] [] σ
  refine j_aload_n c dX2_tableSize_0 rfl ?_
  refine j_iload_n c dX2_tableSize_1 rfl ?_
  refine j_callV c kw_X2_212 (sp_fillAnswers hX hW hf) dX2_tableSize_2 rfl rfl (by decide) (Nat.le_of_ble_eq_true rfl) (Nat.le_of_ble_eq_true rfl) rfl rfl ?_
  rintro _ σ1 ⟨rfl, hP⟩
  have hX1 := hP.1
  have hans := hP.2.2.2
  have hF := hX1.2.2.2.2.2.1 f hf
  refine j_aload_n c dX2_tableSize_5 rfl ?_
  refine j_getR c fl_X2_18 dX2_tableSize_6 (Nat.le_of_ble_eq_true rfl) rfl rfl ?_
  refine j_iload_n c dX2_tableSize_9 rfl ?_
  refine j_aald c dX2_tableSize_10 (Nat.le_of_ble_eq_true rfl) rfl rfl (by omega) (by decide) ?_
  refine j_astore_n c dX2_tableSize_11 (Nat.le_of_ble_eq_true rfl) rfl ?_
  refine j_iconst c (nI 1) dX2_tableSize_12 (by decide) ?_
  refine j_istore_n c dX2_tableSize_13 (Nat.le_of_ble_eq_true rfl) rfl ?_
  refine j_iconst c (nI 0) dX2_tableSize_14 (by decide) ?_
  refine j_istore c dX2_tableSize_15 (Nat.le_of_ble_eq_true rfl) rfl ?_
  generalize hA : rowA T f none (tru T) = A at *
  have outer : ∀ q, q ≤ tpl T f → ∀ u v : Option PV, J Γ 17 [some (.inr 0), some (.inl (nI f)), some (.inr (15 + 7 * f)), some (.inl (nI (szQ A (16 ^ tpl T f) (tn T) q))), some (.inl (nI q)), u, v] [] σ1 := by
    refine loopN _ ?_ ?_
    · intro u v
      refine j_iload c dX2_tableSize_17 rfl ?_
      refine j_aload_n c dX2_tableSize_19 rfl ?_
      refine j_getI c fl_X2_93 dX2_tableSize_20 hp.lt0 (lf0 hp) rfl ?_
      rw [hF.1]
      refine j_icmp_ge c 78 dX2_tableSize_23 (by decide) (fun _ => ?_) (fun h_9 => absurd (nI_le (Nat.le_refl _) (by omega)) h_9)
      refine j_iload_n c dX2_tableSize_78 rfl ?_
      exact j_iret c r dX2_tableSize_79 rfl ⟨rfl, hP⟩
    · intro q hq ih u v
      refine j_iload c dX2_tableSize_17 rfl ?_
      refine j_aload_n c dX2_tableSize_19 rfl ?_
      refine j_getI c fl_X2_93 dX2_tableSize_20 hp.lt0 (lf0 hp) rfl ?_
      rw [hF.1]
      refine j_icmp_ge c 78 dX2_tableSize_23 (by decide) (fun h_9 => absurd h_9 (nI_ge hq (by omega))) (fun _ => ?_)
      refine j_iconst c (nI 0) dX2_tableSize_26 (by decide) ?_
      refine j_istore c dX2_tableSize_27 (Nat.le_of_ble_eq_true rfl) rfl ?_
      refine j_iconst c (nI 0) dX2_tableSize_29 (by decide) ?_
      refine j_istore c dX2_tableSize_30 (Nat.le_of_ble_eq_true rfl) rfl ?_
      generalize hQ : (fun x => decide (fnd (alB A (16 ^ tpl T f) q x) (x + 1) = some x)) = Q
      have hpol : polN A (16 ^ tpl T f) (tn T) q = cnt Q (tn T) := by unfold polN; rw [hQ]
      have inner : ∀ x, x ≤ tn T → J Γ 32 [some (.inr 0), some (.inl (nI f)), some (.inr (15 + 7 * f)), some (.inl (nI (szQ A (16 ^ tpl T f) (tn T) q))), some (.inl (nI q)), some (.inl (nI (cnt Q x))), some (.inl (nI x))] [] σ1 := by
        refine loopN _ ?_ ?_
        · refine j_iload c dX2_tableSize_32 rfl ?_
          refine j_aload_n c dX2_tableSize_34 rfl ?_
          refine j_getR c fl_X2_12 dX2_tableSize_35 (Nat.le_of_ble_eq_true rfl) rfl rfl ?_
          refine j_getI c fl_X2_57 dX2_tableSize_38 (Nat.le_of_ble_eq_true rfl) rfl rfl ?_
          rw [hX1.1.1]
          refine j_icmp_ge c 67 dX2_tableSize_41 (by decide) (fun _ => ?_) (fun h_9 => absurd (nI_le (Nat.le_refl _) (by omega)) h_9)
          rw [← hpol]
          refine j_iload_n c dX2_tableSize_67 rfl ?_
          refine j_iload c dX2_tableSize_68 rfl ?_
          refine j_imul c _ dX2_tableSize_70 (by first | exact pk_mul _ _ | rfl) ?_
          refine j_istore_n c dX2_tableSize_71 (Nat.le_of_ble_eq_true rfl) rfl ?_
          refine j_iinc c _ dX2_tableSize_72 rfl (by first | exact nI_1 _ | exact pk_m1 _ | rfl) rfl ?_
          refine j_goto c 17 dX2_tableSize_75 (by decide) ?_
          exact ih _ _
        · intro x hx ihx
          have hfb : ∀ z, fnd (alB A (16 ^ tpl T f) q x) (x + 1) = some z → z < 2 ^ 31 := fun z hz => by have := (fnd_some hz).1; omega
          have hQx : Q x = decide (fnd (alB A (16 ^ tpl T f) q x) (x + 1) = some x) := by rw [← hQ]
          refine j_iload c dX2_tableSize_32 rfl ?_
          refine j_aload_n c dX2_tableSize_34 rfl ?_
          refine j_getR c fl_X2_12 dX2_tableSize_35 (Nat.le_of_ble_eq_true rfl) rfl rfl ?_
          refine j_getI c fl_X2_57 dX2_tableSize_38 (Nat.le_of_ble_eq_true rfl) rfl rfl ?_
          rw [hX1.1.1]
          refine j_icmp_ge c 67 dX2_tableSize_41 (by decide) (fun h_9 => absurd h_9 (nI_ge hx (by omega))) (fun _ => ?_)
          refine j_aload_n c dX2_tableSize_44 rfl ?_
          refine j_aload_n c dX2_tableSize_45 rfl ?_
          refine j_iload c dX2_tableSize_46 rfl ?_
          refine j_iload c dX2_tableSize_48 rfl ?_
          have hspec := sp_leastAlike hW hf hX1.1.1 hF.1 hans hq hx
          rw [hA] at hspec
          refine j_callV1 c kw_X2_215 (hspec) dX2_tableSize_50 rfl rfl (by decide) (Nat.le_of_ble_eq_true rfl) (Nat.le_of_ble_eq_true rfl) rfl rfl ?_
          refine j_iload c dX2_tableSize_53 rfl ?_
          refine j_icmp_ne c 61 dX2_tableSize_55 (by decide) (fun e => ?_) (fun e => ?_)
          · rw [oI_inj hfb (by omega)] at e
            have e1 : cnt Q (x + 1) = cnt Q x := by simp [cnt, hQx, e]
            rw [e1] at ihx
            refine j_iinc c _ dX2_tableSize_61 rfl (by first | exact nI_1 _ | exact pk_m1 _ | rfl) rfl ?_
            refine j_goto c 32 dX2_tableSize_64 (by decide) ?_
            exact ihx
          · rw [oI_inj hfb (by omega)] at e
            have e1 : cnt Q (x + 1) = cnt Q x + 1 := by simp [cnt, hQx, e]
            rw [e1] at ihx
            refine j_iinc c _ dX2_tableSize_58 rfl (by first | exact nI_1 _ | exact pk_m1 _ | rfl) rfl ?_
            refine j_iinc c _ dX2_tableSize_61 rfl (by first | exact nI_1 _ | exact pk_m1 _ | rfl) rfl ?_
            refine j_goto c 32 dX2_tableSize_64 (by decide) ?_
            exact ihx
      exact inner 0 (Nat.zero_le _)
  exact outer 0 (Nat.zero_le _) none none
theorem sp_poleX {T : TS} {σ : Sg} (hX : InvX T σ) (hW : WF T) (x p k : Int32) : Sp yX2_pole cX2_pole 4 (some .int) 5 [.inr 0, .inl x, .inl p, .inl k] σ (nX T σ (aPole T x p k)) := by
  have h4 := hW.2.2.2.1
  have hn := hW.1
  refine Sp.intro rfl (Nat.le_of_ble_eq_true rfl) (fun Γ c r => ?_)
  show J Γ 0 [some (.inr 0), some (.inl x), some (.inl p), some (.inl k)] [] σ
  have bad : aPole T x p k = -1 → J Γ 36 [some (.inr 0), some (.inl x), some (.inl p), some (.inl k)] [] σ := by
    intro h
    refine j_iconst c (-1) dX2_pole_36 (by decide) ?_
    exact j_iret c r dX2_pole_37 rfl ⟨by rw [h], hX, frXo.rfl' σ⟩
  refine j_aload_n c dX2_pole_0 rfl ?_
  refine j_iload_n c dX2_pole_1 rfl ?_
  refine j_callV1 c kw_X2_144 (sp_hasFunction σ x (tnf T) hX.2.1 h4) dX2_pole_2 rfl rfl (by decide) (Nat.le_of_ble_eq_true rfl) (Nat.le_of_ble_eq_true rfl) rfl rfl ?_
  refine j_if_eq c 36 dX2_pole_5 (by decide) (fun e => ?_) (fun e => ?_)
  · exact bad (by simp [aPole, bI_z e])
  · have e2 := bI_nz e
    obtain ⟨i, hi, hi2, rfl⟩ := isN_of e2
    have hp : FnP (15 + 7 * i) := FnP.of (by omega)
    have hpl := hW.2.2.2.2.1 i hi
    refine j_iload_n c dX2_pole_8 rfl ?_
    refine j_if_lt c 36 dX2_pole_9 (by decide) (fun g => ?_) (fun g => ?_)
    · exact bad (by simp [aPole, isN_neg g])
    · obtain ⟨j, hj2, rfl⟩ := nI_of g
      refine j_iload_n c dX2_pole_12 rfl ?_
      refine j_aload_n c dX2_pole_13 rfl ?_
      refine j_getR c fl_X2_18 dX2_pole_14 (Nat.le_of_ble_eq_true rfl) rfl rfl ?_
      refine j_iload_n c dX2_pole_17 rfl ?_
      refine j_aald c dX2_pole_18 (Nat.le_of_ble_eq_true rfl) rfl rfl (by omega) (by decide) ?_
      refine j_getI c fl_X2_93 dX2_pole_19 hp.lt0 (lf0 hp) rfl ?_
      rw [(hX.2.2.2.2.2.1 i hi).1]
      refine j_icmp_ge c 36 dX2_pole_22 (by decide) (fun q => ?_) (fun q => ?_)
      · rw [nI_leI (by omega) hj2] at q
        exact bad (by unfold aPole; rw [e2, nI_clamp hi2, isN_nI hj2, decide_eq_false (by omega)]; rfl)
      · rw [nI_leI (by omega) hj2] at q
        refine j_aload_n c dX2_pole_25 rfl ?_
        refine j_getR c fl_X2_12 dX2_pole_26 (Nat.le_of_ble_eq_true rfl) rfl rfl ?_
        refine j_iload_n c dX2_pole_29 rfl ?_
        refine j_callV1 c kw_X2_72 (sp_has σ k (tn T) hX.1.1 hn.2) dX2_pole_30 rfl rfl (by decide) (Nat.le_of_ble_eq_true rfl) (Nat.le_of_ble_eq_true rfl) rfl rfl ?_
        refine j_if_ne c 38 dX2_pole_33 (by decide) (fun u => ?_) (fun u => ?_)
        · have u2 := bI_nz u
          obtain ⟨y, hy, hy2, rfl⟩ := isN_of u2
          have ha : aPole T (nI i) (nI j) (nI y) = oI (fnd (alB (rowA T i none (tru T)) (16 ^ tpl T i) j y) (y + 1)) := by
            unfold aPole
            rw [e2, nI_clamp hi2, isN_nI hj2, decide_eq_true (by omega), u2, nI_clamp hj2, nI_clamp hy2]
            rfl
          rw [ha] at r
          refine j_aload_n c dX2_pole_38 rfl ?_
          refine j_iload_n c dX2_pole_39 rfl ?_
          refine j_callV c kw_X2_212 (sp_fillAnswers hX hW hi) dX2_pole_40 rfl rfl (by decide) (Nat.le_of_ble_eq_true rfl) (Nat.le_of_ble_eq_true rfl) rfl rfl ?_
          rintro _ σ1 ⟨rfl, hP⟩
          refine j_aload_n c dX2_pole_43 rfl ?_
          refine j_aload_n c dX2_pole_44 rfl ?_
          refine j_getR c fl_X2_18 dX2_pole_45 (Nat.le_of_ble_eq_true rfl) rfl rfl ?_
          refine j_iload_n c dX2_pole_48 rfl ?_
          refine j_aald c dX2_pole_49 (Nat.le_of_ble_eq_true rfl) rfl rfl (by omega) (by decide) ?_
          refine j_iload_n c dX2_pole_50 rfl ?_
          refine j_iload_n c dX2_pole_51 rfl ?_
          refine j_callV1 c kw_X2_215 (sp_leastAlike hW hi hP.1.1.1 (hP.1.2.2.2.2.2.1 i hi).1 hP.2.2.2 (show j < tpl T i by omega) hy) dX2_pole_52 rfl rfl (by decide) (Nat.le_of_ble_eq_true rfl) (Nat.le_of_ble_eq_true rfl) rfl rfl ?_
          exact j_iret c r dX2_pole_55 rfl ⟨rfl, hP.1, hP.fr⟩
        · exact bad (by unfold aPole; rw [bI_z u]; simp)
