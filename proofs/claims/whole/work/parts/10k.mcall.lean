-- ===== 10k: the reference's call =====
theorem sp_callM {T : TS} {σ : Sg} (hM : InvM T none σ) (hW : WF T) (x y : Int32) : Sp yX3_call cX3_call 5 (some .int) 4 [.inr 50, .inl x, .inl y] σ (nM (tCall T x y) σ (aCall T x y)) := by
  have h4 := hW.2.2.2.1
  have hM0 := hM.keep (k0 σ (nI 0))
  have fr0 : frMo σ (s2 σ 50 0 (nI 0)) := frMo.s2 (by decide) (by decide)
  refine Sp.intro rfl (Nat.le_of_ble_eq_true rfl) (fun Γ c r => ?_)
  show J Γ 0 [some (.inr 50), some (.inl x), some (.inl y), none, none] [] σ
  refine j_aload_n c dX3_call_0 rfl ?_
  refine j_iconst c (nI 0) dX3_call_1 (by decide) ?_
  refine j_putI c fl_X3_65 dX3_call_2 (Nat.le_of_ble_eq_true rfl) rfl rfl ?_
  refine j_aload_n c dX3_call_5 rfl ?_
  refine j_iload_n c dX3_call_6 rfl ?_
  refine j_iload_n c dX3_call_7 rfl ?_
  refine j_callV1 c kw_X3_114 (sp_isCall hM0 hW x y) dX3_call_8 rfl rfl (by decide) (Nat.le_of_ble_eq_true rfl) (Nat.le_of_ble_eq_true rfl) rfl rfl ?_
  refine j_if_ne c 17 dX3_call_11 (by decide) (fun e => ?_) (fun e => ?_)
  · have e2 := bI_nz e
    obtain ⟨i, a, hi, rfl, rfl, hv⟩ := isC_of h4 e2
    have hal := vcall_lt hv (hW.2.2.2.2.1 i hi).2
    have h6 := hW.kp i (by omega)
    have hvl : ∀ x, x ∈ tkp T i → x < 4096 := fun x hx => vcall_lt (hW.2.2.2.2.2.2.2.2 i x hi hx) (hW.2.2.2.2.1 i hi).2
    have ht : tCall T (nI i) (nI a) = nCall T i a := by unfold tCall; rw [e2, nI_clamp (n := i) (by omega), nI_clamp (n := a) (by omega)]; rfl
    have ha : aCall T (nI i) (nI a) = ansI (tls T) (ttg T i) (tru T) a := by unfold aCall; rw [e2, nI_clamp (n := i) (by omega), nI_clamp (n := a) (by omega)]; rfl
    rw [ht, ha] at r
    have h60 := hM0.2.2.2.2.2.2.2.2.2.2.1 i (by omega)
    have h59 := hM0.2.2.2.2.2.2.2.2.2.2.2.1 i
    have h14 := hM0.2.2.2.2.2.2.2.2.2.2.2.2.1
    have h15 := hM0.2.2.2.2.2.2.2.2.2.2.2.2.2.1
    have hle := nKp_le (tkp T i) a h6
    have hkp := nKp_kp (tkp T i) a h6
    have hlen := nKp_len (tkp T i) a h6
    -- the row's end
    have shift : ∀ k, k ≤ (nKp (tkp T i) a).length - 1 → kpI (tkp T i) a ≤ k → ∀ σ1 : Sg, (∀ q, q ≠ 50 → q ≠ 59 → q ≠ 60 → σ1 q = s2 σ 50 0 (nI 0) q) → (∀ j, j ≠ 14 → j ≠ 15 → σ1 50 j = s2 σ 50 0 (nI 0) 50 j) → σ1 50 14 = thi (nCall T i a) → σ1 50 15 = tmi (nCall T i a) → (∀ g, g < 4 → σ1 60 g = if g = i then nI (nKp (tkp T i) a).length else s2 σ 50 0 (nI 0) 60 g) → (∀ j z, j < k → (nKp (tkp T i) a)[j]? = some z → σ1 59 (6 * i + j) = nI z) → (∀ j z, k ≤ j → (tkp T i)[j]? = some z → σ1 59 (6 * i + j) = nI z) → (∀ j, j < 6 * i ∨ 6 * i + 6 ≤ j → σ1 59 j = s2 σ 50 0 (nI 0) 59 j) → J Γ 142 [some (.inr 50), some (.inl (nI i)), some (.inl (nI a)), some (.inl (nI (6 * i))), some (.inl (nI k))] [] σ1 := by
      refine loopN _ ?_ ?_
      · intro hk σ1 g1 g2 g3 g4 g5 g6 g7 g8
        refine j_iload c dX3_call_142 rfl ?_
        refine j_iconst c (nI 1) dX3_call_144 (by decide) ?_
        refine j_iadd c _ dX3_call_145 (by first | exact nI_add _ _ | rfl) ?_
        refine j_aload_n c dX3_call_146 rfl ?_
        refine j_getR c fl_X3_37 dX3_call_147 (Nat.le_of_ble_eq_true rfl) rfl rfl ?_
        refine j_iload_n c dX3_call_150 rfl ?_
        refine j_iald c dX3_call_151 (Nat.le_of_ble_eq_true rfl) rfl rfl (by omega) (by decide) ?_
        rw [g5 i (by omega), if_pos rfl]
        refine j_icmp_ge c 181 dX3_call_152 (by decide) (fun _ => ?_) (fun h => absurd (nI_le (by omega) (by omega)) h)
        refine j_aload_n c dX3_call_181 rfl ?_
        refine j_getR c fl_X3_34 dX3_call_182 (Nat.le_of_ble_eq_true rfl) rfl rfl ?_
        refine j_iload_n c dX3_call_185 rfl ?_
        refine j_iload c dX3_call_186 rfl ?_
        refine j_iadd c _ dX3_call_188 (by first | exact nI_add _ _ | rfl) ?_
        refine j_iload_n c dX3_call_189 rfl ?_
        refine j_iast c dX3_call_190 (Nat.le_of_ble_eq_true rfl) rfl rfl (by omega) (by decide) ?_
        refine j_aload_n c dX3_call_191 rfl ?_
        refine j_iload_n c dX3_call_192 rfl ?_
        refine j_iload_n c dX3_call_193 rfl ?_
        refine j_aload_n c dX3_call_194 rfl ?_
        have hM1 : InvM (nCall T i a) none (s2 σ1 59 (6 * i + ((nKp (tkp T i) a).length - 1)) (nI a)) := by
          have hA : InvM (setKp T i (nKp (tkp T i) a)) none (sR (s2 σ1 59 (6 * i + ((nKp (tkp T i) a).length - 1)) (nI a)) 50 (s2 σ 50 0 (nI 0) 50)) := by
            refine InvM.kp hM0 h4 hW.kp (fun q h1 h2 => ?_) (fun g hg => ?_) (fun j hj => ?_) (fun j z hj => ?_)
            · by_cases eq : q = 50
              · subst eq; rw [sR_at]
              · rw [sR_ne eq, s2_np h1]; exact g1 q eq h1 h2
            · rw [sR_ne (by decide), s2_np (by decide)]; exact g5 g hg
            · rw [sR_ne (by decide), s2_nk (by omega)]; exact g8 j hj
            · rw [sR_ne (by decide)]
              have hjl := (List.getElem?_eq_some_iff.mp hj).1
              by_cases ej : j = (nKp (tkp T i) a).length - 1
              · rw [ej, s2_at]
                rw [ej, nKp_last] at hj
                cases hj
                rfl
              · rw [s2_nk (by omega)]
                exact g6 j z (by omega) hj
          refine InvM.hm hA (fun q hq => by rw [sR_ne hq]) (fun j h1 h2 => ?_) ?_ ?_
          · rw [sR_at, s2_np (by decide)]; exact g2 j h1 h2
          · rw [s2_np (by decide)]; exact g3
          · rw [s2_np (by decide)]; exact g4
        have hWc := hW.call hi hv
        refine j_getI c fl_X3_133 dX3_call_195 (Nat.le_of_ble_eq_true rfl) rfl rfl ?_
        rw [hM1.2.2.2.2.2.2.2.2.2.1]
        refine j_callV1 c kw_X3_159 (sp_answerOf hM1 hWc hi (MoOK.no _ i) hv hW.2.2.2.2.2.2.1) dX3_call_198 rfl rfl (by decide) (Nat.le_of_ble_eq_true rfl) (Nat.le_of_ble_eq_true rfl) rfl rfl ?_
        exact j_iret c r dX3_call_201 rfl ⟨rfl, hM1, fr0.trans (fun q hq => by rw [s2_np (by omega)]; exact g1 q (by omega) (by omega) (by omega))⟩
      · intro k hk ih hkk σ1 g1 g2 g3 g4 g5 g6 g7 g8
        have hk1 : k + 1 < (tkp T i).length := by omega
        obtain ⟨z, hz⟩ : ∃ z, (tkp T i)[k + 1]? = some z := ⟨_, List.getElem?_eq_getElem hk1⟩
        refine j_iload c dX3_call_142 rfl ?_
        refine j_iconst c (nI 1) dX3_call_144 (by decide) ?_
        refine j_iadd c _ dX3_call_145 (by first | exact nI_add _ _ | rfl) ?_
        refine j_aload_n c dX3_call_146 rfl ?_
        refine j_getR c fl_X3_37 dX3_call_147 (Nat.le_of_ble_eq_true rfl) rfl rfl ?_
        refine j_iload_n c dX3_call_150 rfl ?_
        refine j_iald c dX3_call_151 (Nat.le_of_ble_eq_true rfl) rfl rfl (by omega) (by decide) ?_
        rw [g5 i (by omega), if_pos rfl]
        refine j_icmp_ge c 181 dX3_call_152 (by decide) (fun h => absurd h (nI_ge (by omega) (by omega))) (fun _ => ?_)
        refine j_aload_n c dX3_call_155 rfl ?_
        refine j_getR c fl_X3_34 dX3_call_156 (Nat.le_of_ble_eq_true rfl) rfl rfl ?_
        refine j_iload_n c dX3_call_159 rfl ?_
        refine j_iload c dX3_call_160 rfl ?_
        refine j_iadd c _ dX3_call_162 (by first | exact nI_add _ _ | rfl) ?_
        refine j_aload_n c dX3_call_163 rfl ?_
        refine j_getR c fl_X3_34 dX3_call_164 (Nat.le_of_ble_eq_true rfl) rfl rfl ?_
        refine j_iload_n c dX3_call_167 rfl ?_
        refine j_iload c dX3_call_168 rfl ?_
        refine j_iadd c _ dX3_call_170 (by first | exact nI_add _ _ | rfl) ?_
        refine j_iconst c (nI 1) dX3_call_171 (by decide) ?_
        refine j_iadd c _ dX3_call_172 (by first | exact nI_add _ _ | rfl) ?_
        have ez : σ1 59 (6 * i + k + 1) = nI z := g7 (k + 1) z (by omega) hz
        refine j_iald c dX3_call_173 (by first | exact (Nat.le_of_ble_eq_true rfl) | exact hp.lt (by decide)) (by first | exact lf1 hp | exact lf2 hp | exact lf3 hp | exact lf4 hp | exact lf5 hp | exact lf6 hp | rfl) rfl (by omega) (by decide) ?_
        rw [ez]
        refine j_iast c dX3_call_174 (by first | exact (Nat.le_of_ble_eq_true rfl) | exact hp.lt (by decide)) (by first | exact lf1 hp | exact lf2 hp | exact lf3 hp | exact lf4 hp | exact lf5 hp | exact lf6 hp | rfl) rfl (by omega) (by decide) ?_
        refine j_iinc c _ dX3_call_175 rfl (by first | exact nI_1 _ | exact pk_m1 _ | rfl) rfl ?_
        refine j_goto c 142 dX3_call_178 (by decide) ?_
        refine ih (by omega) _ (fun q h1 h2 h3 => by rw [s2_np h2]; exact g1 q h1 h2 h3) (fun j h1 h2 => by rw [s2_np (by decide)]; exact g2 j h1 h2) (by rw [s2_np (by decide)]; exact g3) (by rw [s2_np (by decide)]; exact g4) (fun g hg => by rw [s2_np (by decide)]; exact g5 g hg) (fun j z' h1 h2 => ?_) (fun j z' h1 h2 => by rw [s2_nk (by omega)]; exact g7 j z' (by omega) h2) (fun j hj => by rw [s2_nk (by omega)]; exact g8 j hj)
        by_cases ej : j = k
        · subst ej
          rw [s2_at]
          rw [nKp_at h6 (by omega), if_neg (by omega), hz] at h2
          cases h2
          rfl
        · rw [s2_nk (by omega)]; exact g6 j z' (by omega) h2
    -- what is there below the place
    have below : ∀ j z, j < kpI (tkp T i) a → (nKp (tkp T i) a)[j]? = some z → s2 σ 50 0 (nI 0) 59 (6 * i + j) = nI z := fun j z hj hz => by
      rw [nKp_at h6 (by omega), if_pos hj] at hz
      exact h59 j z hi hz
    -- behind the search
    have found : ∀ k, (tkp T i).idxOf a = k → k ≤ (tkp T i).length → J Γ 55 [some (.inr 50), some (.inl (nI i)), some (.inl (nI a)), some (.inl (nI (6 * i))), some (.inl (nI k))] [] (s2 σ 50 0 (nI 0)) := by
      intro k hidx hkl
      refine j_iload c dX3_call_55 rfl ?_
      refine j_aload_n c dX3_call_57 rfl ?_
      refine j_getR c fl_X3_37 dX3_call_58 (Nat.le_of_ble_eq_true rfl) rfl rfl ?_
      refine j_iload_n c dX3_call_61 rfl ?_
      refine j_iald c dX3_call_62 (Nat.le_of_ble_eq_true rfl) rfl rfl (by omega) (by decide) ?_
      rw [h60]
      by_cases hk : k < (tkp T i).length
      · have hkI : kpI (tkp T i) a = k := by unfold kpI; rw [hidx, if_pos hk]
        have hl2 : (nKp (tkp T i) a).length = (tkp T i).length := by rw [hlen, hidx, if_pos hk]
        refine j_icmp_ge c 79 dX3_call_63 (by decide) (fun h => absurd h (nI_ge hk (by omega))) (fun _ => ?_)
        refine j_aload_n c dX3_call_66 rfl ?_
        refine j_dup c dX3_call_67 ?_
        refine j_getI c fl_X3_136 dX3_call_68 (Nat.le_of_ble_eq_true rfl) rfl rfl ?_
        rw [h14]
        refine j_iconst c (nI 1) dX3_call_71 (by decide) ?_
        refine j_iadd c _ dX3_call_72 rfl ?_
        refine j_putI c fl_X3_136 dX3_call_73 (Nat.le_of_ble_eq_true rfl) rfl rfl ?_
        refine j_goto c 142 dX3_call_76 (by decide) ?_
        refine shift k (by omega) (by omega) _ (fun q h1 h2 h3 => by rw [s2_np h1]) (fun j h1 h2 => by rw [s2_nk h1]) ?_ ?_ (fun g hg => ?_) (fun j z h1 h2 => ?_) (fun j z h1 h2 => ?_) (fun j hj => by rw [s2_np (by decide)])
        · rw [s2_at]; show _ = (if _ then _ else _); rw [if_pos (by omega)]
        · rw [s2_nk (by decide), h15]; show _ = (if _ then _ else _); rw [if_pos (by omega)]
        · rw [s2_np (by decide)]
          by_cases eg : g = i
          · rw [if_pos eg, eg, h60, hl2]
          · rw [if_neg eg]
        · rw [s2_np (by decide)]; exact below j z (by omega) h2
        · rw [s2_np (by decide)]; exact h59 j z hi h2
      · have hk2 : k = (tkp T i).length := by omega
        refine j_icmp_ge c 79 dX3_call_63 (by decide) (fun _ => ?_) (fun h => absurd (nI_le (by omega) (by omega)) h)
        refine j_aload_n c dX3_call_79 rfl ?_
        refine j_dup c dX3_call_80 ?_
        refine j_getI c fl_X3_139 dX3_call_81 (Nat.le_of_ble_eq_true rfl) rfl rfl ?_
        rw [h15]
        refine j_iconst c (nI 1) dX3_call_84 (by decide) ?_
        refine j_iadd c _ dX3_call_85 rfl ?_
        refine j_putI c fl_X3_139 dX3_call_86 (Nat.le_of_ble_eq_true rfl) rfl rfl ?_
        refine j_aload_n c dX3_call_89 rfl ?_
        refine j_getR c fl_X3_37 dX3_call_90 (Nat.le_of_ble_eq_true rfl) rfl rfl ?_
        refine j_iload_n c dX3_call_93 rfl ?_
        refine j_iald c dX3_call_94 (Nat.le_of_ble_eq_true rfl) rfl rfl (by omega) (by decide) ?_
        rw [s2_np (by decide), h60]
        refine j_bipush c (nI 6) dX3_call_95 (by decide) ?_
        by_cases hf6 : (tkp T i).length = 6
        · have hkI : kpI (tkp T i) a = 0 := by unfold kpI; rw [hidx, if_neg hk, if_pos hf6]
          have hl2 : (nKp (tkp T i) a).length = 6 := by rw [hlen, hidx, if_neg hk, if_pos hf6]
          rw [hf6]
          refine j_icmp_ne c 104 dX3_call_97 (by decide) (fun h => absurd (by rfl) h) (fun _ => ?_)
          refine j_iconst c (nI 0) dX3_call_100 (by decide) ?_
          refine j_goto c 110 dX3_call_101 (by decide) ?_
          refine j_istore c dX3_call_110 (Nat.le_of_ble_eq_true rfl) rfl ?_
          refine j_aload_n c dX3_call_112 rfl ?_
          refine j_getR c fl_X3_37 dX3_call_113 (Nat.le_of_ble_eq_true rfl) rfl rfl ?_
          refine j_iload_n c dX3_call_116 rfl ?_
          refine j_aload_n c dX3_call_117 rfl ?_
          refine j_getR c fl_X3_37 dX3_call_118 (Nat.le_of_ble_eq_true rfl) rfl rfl ?_
          refine j_iload_n c dX3_call_121 rfl ?_
          refine j_iald c dX3_call_122 (Nat.le_of_ble_eq_true rfl) rfl rfl (by omega) (by decide) ?_
          rw [s2_np (by decide), h60, hf6]
          refine j_bipush c (nI 6) dX3_call_123 (by decide) ?_
          refine j_icmp_ne c 133 dX3_call_125 (by decide) (fun h => absurd (by rfl) h) (fun _ => ?_)
          refine j_bipush c (nI 6) dX3_call_128 (by decide) ?_
          refine j_goto c 141 dX3_call_130 (by decide) ?_
          refine j_iast c dX3_call_141 (by first | exact (Nat.le_of_ble_eq_true rfl) | exact hp.lt (by decide)) (by first | exact lf1 hp | exact lf2 hp | exact lf3 hp | exact lf4 hp | exact lf5 hp | exact lf6 hp | rfl) rfl (by omega) (by decide) ?_
          refine shift 0 (by omega) (by omega) _ (fun q h1 h2 h3 => by rw [s2_np h3, s2_np h1]) (fun j h1 h2 => by rw [s2_np (by decide), s2_nk h2]) ?_ ?_ (fun g hg => ?_) (fun j z h1 h2 => by omega) (fun j z h1 h2 => ?_) (fun j hj => by rw [s2_np (by decide), s2_np (by decide)])
          · rw [s2_np (by decide), s2_nk (by decide), h14]; show _ = (if _ then _ else _); rw [if_neg (by omega)]
          · rw [s2_np (by decide), s2_at]; show _ = (if _ then _ else _); rw [if_neg (by omega)]
          · by_cases eg : g = i
            · rw [if_pos eg, eg, s2_at, hl2]
            · rw [if_neg eg, s2_nk eg, s2_np (by decide)]
          · rw [s2_np (by decide), s2_np (by decide)]; exact h59 j z hi h2
        · have hkI : kpI (tkp T i) a = (tkp T i).length := by unfold kpI; rw [hidx, if_neg hk, if_neg hf6]
          have hl2 : (nKp (tkp T i) a).length = (tkp T i).length + 1 := by rw [hlen, hidx, if_neg hk, if_neg hf6]
          refine j_icmp_ne c 104 dX3_call_97 (by decide) (fun _ => ?_) (fun h => absurd h (fun h => hf6 ((nI_eq (by omega) (by decide)).mp h)))
          refine j_aload_n c dX3_call_104 rfl ?_
          refine j_getR c fl_X3_37 dX3_call_105 (Nat.le_of_ble_eq_true rfl) rfl rfl ?_
          refine j_iload_n c dX3_call_108 rfl ?_
          refine j_iald c dX3_call_109 (Nat.le_of_ble_eq_true rfl) rfl rfl (by omega) (by decide) ?_
          rw [s2_np (by decide), h60]
          refine j_istore c dX3_call_110 (Nat.le_of_ble_eq_true rfl) rfl ?_
          refine j_aload_n c dX3_call_112 rfl ?_
          refine j_getR c fl_X3_37 dX3_call_113 (Nat.le_of_ble_eq_true rfl) rfl rfl ?_
          refine j_iload_n c dX3_call_116 rfl ?_
          refine j_aload_n c dX3_call_117 rfl ?_
          refine j_getR c fl_X3_37 dX3_call_118 (Nat.le_of_ble_eq_true rfl) rfl rfl ?_
          refine j_iload_n c dX3_call_121 rfl ?_
          refine j_iald c dX3_call_122 (Nat.le_of_ble_eq_true rfl) rfl rfl (by omega) (by decide) ?_
          rw [s2_np (by decide), h60]
          refine j_bipush c (nI 6) dX3_call_123 (by decide) ?_
          refine j_icmp_ne c 133 dX3_call_125 (by decide) (fun _ => ?_) (fun h => absurd h (fun h => hf6 ((nI_eq (by omega) (by decide)).mp h)))
          refine j_aload_n c dX3_call_133 rfl ?_
          refine j_getR c fl_X3_37 dX3_call_134 (Nat.le_of_ble_eq_true rfl) rfl rfl ?_
          refine j_iload_n c dX3_call_137 rfl ?_
          refine j_iald c dX3_call_138 (Nat.le_of_ble_eq_true rfl) rfl rfl (by omega) (by decide) ?_
          rw [s2_np (by decide), h60]
          refine j_iconst c (nI 1) dX3_call_139 (by decide) ?_
          refine j_iadd c _ dX3_call_140 (by first | exact nI_add _ _ | rfl) ?_
          refine j_iast c dX3_call_141 (by first | exact (Nat.le_of_ble_eq_true rfl) | exact hp.lt (by decide)) (by first | exact lf1 hp | exact lf2 hp | exact lf3 hp | exact lf4 hp | exact lf5 hp | exact lf6 hp | rfl) rfl (by omega) (by decide) ?_
          refine shift _ (by omega) (by omega) _ (fun q h1 h2 h3 => by rw [s2_np h3, s2_np h1]) (fun j h1 h2 => by rw [s2_np (by decide), s2_nk h2]) ?_ ?_ (fun g hg => ?_) (fun j z h1 h2 => ?_) (fun j z h1 h2 => ?_) (fun j hj => by rw [s2_np (by decide), s2_np (by decide)])
          · rw [s2_np (by decide), s2_nk (by decide), h14]; show _ = (if _ then _ else _); rw [if_neg (by omega)]
          · rw [s2_np (by decide), s2_at]; show _ = (if _ then _ else _); rw [if_neg (by omega)]
          · by_cases eg : g = i
            · rw [if_pos eg, eg, s2_at, hl2]
            · rw [if_neg eg, s2_nk eg, s2_np (by decide)]
          · rw [s2_np (by decide), s2_np (by decide)]; exact below j z (by omega) h2
          · have := (List.getElem?_eq_some_iff.mp h2).1
            omega
    have look : ∀ k, k ≤ (tkp T i).length → (∀ j, j < k → (tkp T i)[j]? ≠ some a) → J Γ 25 [some (.inr 50), some (.inl (nI i)), some (.inl (nI a)), some (.inl (nI (6 * i))), some (.inl (nI k))] [] (s2 σ 50 0 (nI 0)) := by
      refine loopN _ ?_ ?_
      · intro h0
        refine j_iload c dX3_call_25 rfl ?_
        refine j_aload_n c dX3_call_27 rfl ?_
        refine j_getR c fl_X3_37 dX3_call_28 (Nat.le_of_ble_eq_true rfl) rfl rfl ?_
        refine j_iload_n c dX3_call_31 rfl ?_
        refine j_iald c dX3_call_32 (Nat.le_of_ble_eq_true rfl) rfl rfl (by omega) (by decide) ?_
        rw [h60]
        refine j_icmp_ge c 55 dX3_call_33 (by decide) (fun _ => ?_) (fun h => absurd (nI_le (Nat.le_refl _) (by omega)) h)
        exact found _ (idx_no h0) (Nat.le_refl _)
      · intro k hk ih h0
        obtain ⟨z, hz⟩ : ∃ z, (tkp T i)[k]? = some z := ⟨_, List.getElem?_eq_getElem hk⟩
        have hzl := hvl z (List.mem_of_getElem? hz)
        refine j_iload c dX3_call_25 rfl ?_
        refine j_aload_n c dX3_call_27 rfl ?_
        refine j_getR c fl_X3_37 dX3_call_28 (Nat.le_of_ble_eq_true rfl) rfl rfl ?_
        refine j_iload_n c dX3_call_31 rfl ?_
        refine j_iald c dX3_call_32 (Nat.le_of_ble_eq_true rfl) rfl rfl (by omega) (by decide) ?_
        rw [h60]
        refine j_icmp_ge c 55 dX3_call_33 (by decide) (fun h => absurd h (nI_ge hk (by omega))) (fun _ => ?_)
        refine j_aload_n c dX3_call_36 rfl ?_
        refine j_getR c fl_X3_34 dX3_call_37 (Nat.le_of_ble_eq_true rfl) rfl rfl ?_
        refine j_iload_n c dX3_call_40 rfl ?_
        refine j_iload c dX3_call_41 rfl ?_
        refine j_iadd c _ dX3_call_43 (by first | exact nI_add _ _ | rfl) ?_
        refine j_iald c dX3_call_44 (Nat.le_of_ble_eq_true rfl) rfl rfl (by omega) (by decide) ?_
        rw [h59 k z hi hz]
        refine j_iload_n c dX3_call_45 rfl ?_
        refine j_icmp_eq c 55 dX3_call_46 (by decide) (fun g => ?_) (fun g => ?_)
        · rw [nI_eq (by omega) (by omega)] at g
          subst g
          exact found k (idx_hit hz h0) (by omega)
        · rw [nI_eq (by omega) (by omega)] at g
          refine j_iinc c _ dX3_call_49 rfl (by first | exact nI_1 _ | exact pk_m1 _ | rfl) rfl ?_
          refine j_goto c 25 dX3_call_52 (by decide) ?_
          refine ih (fun j hj => ?_)
          by_cases ej : j = k
          · subst ej; rw [hz]; intro h; cases h; exact g rfl
          · exact h0 j (by omega)
    refine j_bipush c (nI 6) dX3_call_17 (by decide) ?_
    refine j_iload_n c dX3_call_19 rfl ?_
    refine j_imul c _ dX3_call_20 (by first | exact pk_mul _ _ | rfl) ?_
    refine j_istore_n c dX3_call_21 (Nat.le_of_ble_eq_true rfl) rfl ?_
    refine j_iconst c (nI 0) dX3_call_22 (by decide) ?_
    refine j_istore c dX3_call_23 (Nat.le_of_ble_eq_true rfl) rfl ?_
    exact look 0 (Nat.zero_le _) (fun j hj => by omega)
  · refine j_bipush c (-3) dX3_call_14 (by decide) ?_
    exact j_iret c r dX3_call_16 rfl ⟨by simp [aCall, bI_z e], by simp only [tCall, bI_z e]; exact hM0, fr0⟩
