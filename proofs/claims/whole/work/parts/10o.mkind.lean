-- ===== 10o: the reference's kind, is, list, meet =====
theorem sp_kindM {T : TS} {σ : Sg} (hM : InvM T none σ) (hW : WF T) (a b d : Int32) : Sp yX3_kind cX3_kind 7 (some .int) 3 [.inr 50, .inl a, .inl b, .inl d] σ (nM (tKind T a b d) σ (aKind T a b d)) := by
  have hn := hW.1
  have hM0 := hM.keep (k0 σ (nI 0))
  have fr0 : frMo σ (s2 σ 50 0 (nI 0)) := frMo.s2 (by decide) (by decide)
  refine Sp.intro rfl (Nat.le_of_ble_eq_true rfl) (fun Γ c r => ?_)
  show J Γ 0 [some (.inr 50), some (.inl a), some (.inl b), some (.inl d), none, none, none] [] σ
  have bad : ∀ u : Option PV, okPar T a b d = false → J Γ 88 [some (.inr 50), some (.inl a), some (.inl b), some (.inl d), u, none, none] [] (s2 σ 50 0 (nI 0)) := by
    intro u h
    refine j_iconst c (-1) dX3_kind_88 (by decide) ?_
    exact j_iret c r dX3_kind_89 rfl ⟨by simp [aKind, h], by simp only [tKind, h]; exact hM0, fr0⟩
  -- the flag
  have flag : ∀ q : Bool, q = (isN a (tn T) && ((if b = -1 then decide (d = -1) else isN b (tn T)) && (decide (d = -1) || isN d (tn T)))) → J Γ 52 [some (.inr 50), some (.inl a), some (.inl b), some (.inl d), none, none, none] [.inl (bI q)] (s2 σ 50 0 (nI 0)) := by
    intro q hq
    have hpar : okPar T a b d = (decide (tn T < 16) && (q && (!decide (a = b) && (!decide (a = d) && (!decide (b = d) || decide (b = -1)))))) := by
      unfold okPar
      rw [hq]
      simp only [Bool.and_assoc]
    refine j_istore c dX3_kind_52 (Nat.le_of_ble_eq_true rfl) rfl ?_
    refine j_iload c dX3_kind_54 rfl ?_
    refine j_if_eq c 88 dX3_kind_56 (by decide) (fun e => ?_) (fun e => ?_)
    · exact bad _ (by rw [hpar, bI_z e]; simp)
    · have e2 := bI_nz e
      rw [e2] at hpar
      refine j_aload_n c dX3_kind_59 rfl ?_
      refine j_getI c fl_X3_62 dX3_kind_60 (Nat.le_of_ble_eq_true rfl) rfl rfl ?_
      rw [hM0.1]
      refine j_bipush c (nI 16) dX3_kind_63 (by decide) ?_
      refine j_icmp_eq c 88 dX3_kind_65 (by decide) (fun g => ?_) (fun g => ?_)
      · rw [nI_eq (by omega) (by decide)] at g
        exact bad _ (by rw [hpar, g]; rfl)
      · rw [nI_eq (by omega) (by decide)] at g
        refine j_iload_n c dX3_kind_68 rfl ?_
        refine j_iload_n c dX3_kind_69 rfl ?_
        refine j_icmp_eq c 88 dX3_kind_70 (by decide) (fun x1 => ?_) (fun x1 => ?_)
        · exact bad _ (by rw [hpar]; simp [x1])
        · refine j_iload_n c dX3_kind_73 rfl ?_
          refine j_iload_n c dX3_kind_74 rfl ?_
          refine j_icmp_eq c 88 dX3_kind_75 (by decide) (fun x2 => ?_) (fun x2 => ?_)
          · exact bad _ (by rw [hpar]; simp [x2])
          · have goodE : (!decide (b = d) || decide (b = -1)) = true → J Γ 90 [some (.inr 50), some (.inl a), some (.inl b), some (.inl d), some (.inl (bI q)), none, none] [] (s2 σ 50 0 (nI 0)) := by
              intro x3
              have hok : okPar T a b d = true := by rw [hpar, x3]; simp [x1, x2]; omega
              obtain ⟨p0, p1, p3, pnd, pP, ⟨i, hi, rfl⟩, pb, pd, pbd⟩ := parOK hn.2 hok
              obtain ⟨ob, rfl, hob⟩ : ∃ ob : Option Nat, b = oI ob ∧ ∀ t, ob = some t → t < tn T := by
                rcases pb with h | ⟨j, hj, h⟩
                · exact ⟨none, h, fun t h => by cases h⟩
                · exact ⟨some j, h, fun t h => by cases h; exact hj⟩
              obtain ⟨od, rfl, hod⟩ : ∃ od : Option Nat, d = oI od ∧ ∀ t, od = some t → t < tn T := by
                rcases pd with h | ⟨_, j, hj, h⟩
                · exact ⟨none, h, fun t h => by cases h⟩
                · exact ⟨some j, h, fun t h => by cases h; exact hj⟩
              have hbn : oI ob = -1 ↔ ob = none := oI_none (fun t ht => by have := hob t ht; omega)
              have hdn : oI od = -1 ↔ od = none := oI_none (fun t ht => by have := hod t ht; omega)
              rw [hbn, hdn] at pbd
              obtain ⟨P, hP⟩ : ∃ P, P = parL (nI i) (oI ob) (oI od) := ⟨_, rfl⟩
              rw [← hP] at p1 p3 pnd pP
              have hPv : P = parO i ob od := by rw [hP]; exact parL_O (by omega) (fun t ht => by have := hob t ht; omega) (fun t ht => by have := hod t ht; omega)
              have ha : aKind T (nI i) (oI ob) (oI od) = (match mrgK T P with | none => -2 | some _ => nI (tn T)) := by unfold aKind; rw [hok, hP]; rfl
              have ht : tKind T (nI i) (oI ob) (oI od) = (match mrgK T P with | none => T | some l => nKind T l) := by unfold tKind; rw [hok, hP]; rfl
              rw [ha, ht] at r
              have hr0 : rwM (tls T) P 0 = tls T i := by rw [hPv]; exact parO_0 i ob od
              have hr1 : rwM (tls T) P 1 = (ob.map (tls T)).getD [] := by rw [hPv]; exact parO_1 i ob od
              have hr2 : rwM (tls T) P 2 = (od.map (tls T)).getD [] := by rw [hPv]; exact parO_2 i ob od pbd
              have hr3 : rwM (tls T) P 3 = P := rfl
              have hcnt : nI P.length = nI (parC ob od) := by rw [hPv, parO_len]
              -- behind the count of parents
              have merge : ∀ σ3 : Sg, (∀ q, q ≠ 61 → q ≠ 62 → q ≠ 63 → σ3 q = s2 σ 50 0 (nI 0) q) → RowsM σ3 (rwM (tls T) P) → J Γ 170 [some (.inr 50), some (.inl (nI i)), some (.inl (oI ob)), some (.inl (oI od)), some (.inl (bI q)), some (.inl (nI (tn T))), none] [] σ3 := by
                intro σ3 f1 f2
                refine j_aload_n c dX3_kind_170 rfl ?_
                refine j_iload c dX3_kind_171 rfl ?_
                refine j_callV c kw_X3_94 (sp_merges f2 p0 (rwM_ok hW p3 pnd pP)) dX3_kind_173 rfl rfl (by decide) (Nat.le_of_ble_eq_true rfl) (Nat.le_of_ble_eq_true rfl) rfl rfl ?_
                rintro _ σ4 ⟨rfl, m1, m2, m3, m4⟩
                have hMK : mrg 4 16 (rwM (tls T) P) [tn T] = mrgK T P := rfl
                rw [hMK] at m4 ⊢
                have fr4 : frMo σ σ4 := fun q hq => by rw [m1 q (by omega) (by omega) (by omega), f1 q (by omega) (by omega) (by omega)]; exact fr0 q hq
                cases hm : mrgK T P with
                | none =>
                  rw [hm] at r
                  refine j_if_ne c 182 dX3_kind_176 (by decide) (fun h_9 => absurd (by rfl) h_9) (fun _ => ?_)
                  refine j_bipush c (-2) dX3_kind_179 (by decide) ?_
                  refine j_iret c r dX3_kind_181 rfl ⟨rfl, ?_, fr4⟩
                  show InvM T none σ4
                  obtain ⟨a1, a2, a3, a4, a5, a6, a7, a8, a9, a10, a11, a12, a13, a14, a15, a16⟩ := hM0
                  have sq : ∀ q, q < 61 → q ≠ 52 → q ≠ 53 → σ4 q = s2 σ 50 0 (nI 0) q := fun q h1 h2 h3 => by rw [m1 q h2 h3 (by omega), f1 q (by omega) (by omega) (by omega)]
                  refine ⟨?_, ?_, ?_, ?_, ?_, ?_, ?_, ?_, ?_, ?_, ?_, ?_, ?_, ?_, ?_, ?_⟩
                  · rw [sq 50 (by decide) (by decide) (by decide)]; exact a1
                  · rw [sq 51 (by decide) (by decide) (by decide)]; exact a2
                  · intro x hx k z hk
                    have h1 := (List.getElem?_eq_some_iff.mp hk).1
                    have h2 := hW.len hx
                    rw [m2 _ (by omega), f1 52 (by decide) (by decide) (by decide)]; exact a3 x hx k z hk
                  · intro x hx
                    rw [m3 x (by omega), f1 53 (by decide) (by decide) (by decide)]; exact a4 x hx
                  · rw [sq 54 (by decide) (by decide) (by decide)]; exact a5
                  · rw [sq 50 (by decide) (by decide) (by decide)]; exact a6
                  · rw [sq 55 (by decide) (by decide) (by decide)]; exact a7
                  · rw [sq 56 (by decide) (by decide) (by decide)]; exact a8
                  · rw [sq 57 (by decide) (by decide) (by decide), sq 58 (by decide) (by decide) (by decide)]; exact a9
                  · rw [sq 50 (by decide) (by decide) (by decide)]; exact a10
                  · rw [sq 60 (by decide) (by decide) (by decide)]; exact a11
                  · rw [sq 59 (by decide) (by decide) (by decide)]; exact a12
                  · rw [sq 50 (by decide) (by decide) (by decide)]; exact a13
                  · rw [sq 50 (by decide) (by decide) (by decide)]; exact a14
                  · rw [sq 50 (by decide) (by decide) (by decide)]; exact a15
                  · rw [sq 50 (by decide) (by decide) (by decide)]; exact a16
                | some l =>
                  rw [hm] at r
                  obtain ⟨l1, l2, l3, l4, l5⟩ := mrgK_ok hW p1 p3 pnd pP hm
                  obtain ⟨m5, m6⟩ := m4 l hm
                  have hlm : ∀ j z, l[j]? = some z → z ≤ tn T := fun j z h => l3 z (List.mem_of_getElem? h)
                  refine j_if_ne c 182 dX3_kind_176 (by decide) (fun _ => ?_) (fun h_9 => absurd h_9 (by show ¬ bI true = 0; decide))
                  refine j_aload_n c dX3_kind_182 rfl ?_
                  refine j_getR c fl_X3_7 dX3_kind_183 (Nat.le_of_ble_eq_true rfl) rfl rfl ?_
                  refine j_iload c dX3_kind_186 rfl ?_
                  refine j_iconst c (nI 0) dX3_kind_188 (by decide) ?_
                  refine j_iast c dX3_kind_189 (Nat.le_of_ble_eq_true rfl) rfl rfl (by omega) (by decide) ?_
                  refine j_iconst c (nI 0) dX3_kind_190 (by decide) ?_
                  refine j_istore c dX3_kind_191 (Nat.le_of_ble_eq_true rfl) rfl ?_
                  have fill : ∀ j, j ≤ l.length → ∀ σ5 : Sg, (∀ q, q ≠ 51 → q ≠ 54 → σ5 q = σ4 q) → (∀ i, i < tn T → σ5 51 i = σ4 51 i) → (∀ z, z < 32 → bt (σ5 51 (tn T)) z = decide (z ∈ l.take j)) → (∀ i, i < 16 * tn T → σ5 54 i = σ4 54 i) → (∀ k z, k < j → l[k]? = some z → σ5 54 (16 * tn T + z) = nI k) → J Γ 193 [some (.inr 50), some (.inl (nI i)), some (.inl (oI ob)), some (.inl (oI od)), some (.inl (bI q)), some (.inl (nI (tn T))), some (.inl (nI j))] [] σ5 := by
                    refine loopN _ ?_ ?_
                    · intro σ5 c1 c2 c3 c4 c5
                      rw [List.take_length] at c3
                      refine j_iload c dX3_kind_193 rfl ?_
                      refine j_aload_n c dX3_kind_195 rfl ?_
                      refine j_getR c fl_X3_16 dX3_kind_196 (Nat.le_of_ble_eq_true rfl) rfl rfl ?_
                      refine j_iload c dX3_kind_199 rfl ?_
                      refine j_iald c dX3_kind_201 (Nat.le_of_ble_eq_true rfl) rfl rfl (by omega) (by decide) ?_
                      rw [c1 53 (by decide) (by decide), m5]
                      refine j_icmp_ge c 262 dX3_kind_202 (by decide) (fun _ => ?_) (fun h_9 => absurd (nI_le (Nat.le_refl _) (by omega)) h_9)
                      refine j_aload_n c dX3_kind_262 rfl ?_
                      refine j_dup c dX3_kind_263 ?_
                      refine j_getI c fl_X3_62 dX3_kind_264 (Nat.le_of_ble_eq_true rfl) rfl rfl ?_
                      rw [c1 50 (by decide) (by decide), m1 50 (by decide) (by decide) (by decide), f1 50 (by decide) (by decide) (by decide), hM0.1]
                      refine j_iconst c (nI 1) dX3_kind_267 (by decide) ?_
                      refine j_iadd c _ dX3_kind_268 (by first | exact nI_add _ _ | rfl) ?_
                      refine j_putI c fl_X3_62 dX3_kind_269 (Nat.le_of_ble_eq_true rfl) rfl rfl ?_
                      refine j_iload c dX3_kind_272 rfl ?_
                      have s50 : ∀ k, k ≠ 1 → s2 σ5 50 1 (nI (tn T + 1)) 50 k = s2 σ 50 0 (nI 0) 50 k := fun k hk => by rw [s2_nk hk, c1 50 (by decide) (by decide), m1 50 (by decide) (by decide) (by decide), f1 50 (by decide) (by decide) (by decide)]
                      have sq : ∀ q, q < 61 ∨ 67 ≤ q → q ≠ 50 → q ≠ 51 → q ≠ 52 → q ≠ 53 → q ≠ 54 → s2 σ5 50 1 (nI (tn T + 1)) q = s2 σ 50 0 (nI 0) q := fun q h1 h2 h3 h4 h5 h6 => by rw [s2_np h2, c1 q h3 h6, m1 q h4 h5 (by omega), f1 q (by omega) (by omega) (by omega)]
                      refine j_iret c r dX3_kind_274 rfl ⟨rfl, ?_, fr0.trans (fun q hq => sq q (by omega) (by omega) (by omega) (by omega) (by omega) (by omega))⟩
                      refine InvM.kind hM0 hW l3 p0 (fun q h1 => sq q (Or.inl h1)) (fun k _ hk => s50 k hk) (s2_at _ _ _ _) (fun x hx => ?_) (fun z hz => ?_) (fun x hx => ?_) (fun k z hk => ?_) (fun x hx => ?_) ?_ (fun x hx => ?_) (fun z hz => ?_)
                      · rw [s2_np (by decide), c2 x hx, m1 51 (by decide) (by decide) (by decide), f1 51 (by decide) (by decide) (by decide)]
                      · rw [s2_np (by decide)]; exact c3 z hz
                      · rw [s2_np (by decide), c1 52 (by decide) (by decide), m2 x hx, f1 52 (by decide) (by decide) (by decide)]
                      · rw [s2_np (by decide), c1 52 (by decide) (by decide)]; exact m6 k z hk
                      · rw [s2_np (by decide), c1 53 (by decide) (by decide), m3 x (by omega), f1 53 (by decide) (by decide) (by decide)]
                      · rw [s2_np (by decide), c1 53 (by decide) (by decide)]; exact m5
                      · rw [s2_np (by decide), c4 x hx, m1 54 (by decide) (by decide) (by decide), f1 54 (by decide) (by decide) (by decide)]
                      · rw [s2_np (by decide)]
                        have hx := List.idxOf_lt_length_of_mem hz
                        exact c5 _ z hx (by rw [List.getElem?_eq_getElem hx, List.getElem_idxOf])
                    · intro j hj ihj σ5 c1 c2 c3 c4 c5
                      obtain ⟨z, hz⟩ : ∃ z, l[j]? = some z := ⟨_, List.getElem?_eq_getElem hj⟩
                      have hzn := hlm j z hz
                      have h52 : σ5 52 (16 * tn T + j) = nI z := by rw [c1 52 (by decide) (by decide)]; exact m6 j z hz
                      have htk : l.take (j + 1) = l.take j ++ [z] := by rw [List.take_add_one, hz]; rfl
                      refine j_iload c dX3_kind_193 rfl ?_
                      refine j_aload_n c dX3_kind_195 rfl ?_
                      refine j_getR c fl_X3_16 dX3_kind_196 (Nat.le_of_ble_eq_true rfl) rfl rfl ?_
                      refine j_iload c dX3_kind_199 rfl ?_
                      refine j_iald c dX3_kind_201 (Nat.le_of_ble_eq_true rfl) rfl rfl (by omega) (by decide) ?_
                      rw [c1 53 (by decide) (by decide), m5]
                      refine j_icmp_ge c 262 dX3_kind_202 (by decide) (fun h_9 => absurd h_9 (nI_ge hj (by omega))) (fun _ => ?_)
                      refine j_aload_n c dX3_kind_205 rfl ?_
                      refine j_getR c fl_X3_7 dX3_kind_206 (Nat.le_of_ble_eq_true rfl) rfl rfl ?_
                      refine j_iload c dX3_kind_209 rfl ?_
                      refine j_dup2 c dX3_kind_211 ?_
                      refine j_iald c dX3_kind_212 (Nat.le_of_ble_eq_true rfl) rfl rfl (by omega) (by decide) ?_
                      refine j_iconst c (nI 1) dX3_kind_213 (by decide) ?_
                      refine j_aload_n c dX3_kind_214 rfl ?_
                      refine j_getR c fl_X3_13 dX3_kind_215 (Nat.le_of_ble_eq_true rfl) rfl rfl ?_
                      refine j_bipush c (nI 16) dX3_kind_218 (by decide) ?_
                      refine j_iload c dX3_kind_220 rfl ?_
                      refine j_imul c _ dX3_kind_222 (by first | exact pk_mul _ _ | rfl) ?_
                      refine j_iload c dX3_kind_223 rfl ?_
                      refine j_iadd c _ dX3_kind_225 (by first | exact nI_add _ _ | rfl) ?_
                      refine j_iald c dX3_kind_226 (Nat.le_of_ble_eq_true rfl) rfl rfl (by omega) (by decide) ?_
                      rw [h52]
                      refine j_ishl c _ dX3_kind_227 rfl ?_
                      refine j_ior c _ dX3_kind_228 rfl ?_
                      refine j_iast c dX3_kind_229 (by first | exact (Nat.le_of_ble_eq_true rfl) | exact hp.lt (by decide)) (by first | exact lf1 hp | exact lf2 hp | exact lf3 hp | exact lf4 hp | exact lf5 hp | exact lf6 hp | rfl) rfl (by omega) (by decide) ?_
                      refine j_aload_n c dX3_kind_230 rfl ?_
                      refine j_getR c fl_X3_19 dX3_kind_231 (Nat.le_of_ble_eq_true rfl) rfl rfl ?_
                      refine j_bipush c (nI 16) dX3_kind_234 (by decide) ?_
                      refine j_iload c dX3_kind_236 rfl ?_
                      refine j_imul c _ dX3_kind_238 (by first | exact pk_mul _ _ | rfl) ?_
                      refine j_aload_n c dX3_kind_239 rfl ?_
                      refine j_getR c fl_X3_13 dX3_kind_240 (Nat.le_of_ble_eq_true rfl) rfl rfl ?_
                      refine j_bipush c (nI 16) dX3_kind_243 (by decide) ?_
                      refine j_iload c dX3_kind_245 rfl ?_
                      refine j_imul c _ dX3_kind_247 (by first | exact pk_mul _ _ | rfl) ?_
                      refine j_iload c dX3_kind_248 rfl ?_
                      refine j_iadd c _ dX3_kind_250 (by first | exact nI_add _ _ | rfl) ?_
                      refine j_iald c dX3_kind_251 (Nat.le_of_ble_eq_true rfl) rfl rfl (by omega) (by decide) ?_
                      rw [s2_np (by decide), h52]
                      refine j_iadd c _ dX3_kind_252 (by first | exact nI_add _ _ | rfl) ?_
                      refine j_iload c dX3_kind_253 rfl ?_
                      refine j_iast c dX3_kind_255 (by first | exact (Nat.le_of_ble_eq_true rfl) | exact hp.lt (by decide)) (by first | exact lf1 hp | exact lf2 hp | exact lf3 hp | exact lf4 hp | exact lf5 hp | exact lf6 hp | rfl) rfl (by omega) (by decide) ?_
                      refine j_iinc c _ dX3_kind_256 rfl (by first | exact nI_1 _ | exact pk_m1 _ | rfl) rfl ?_
                      refine j_goto c 193 dX3_kind_259 (by decide) ?_
                      refine ihj _ (fun q h1 h2 => by rw [s2_np h2, s2_np h1]; exact c1 q h1 h2) (fun x hx => by rw [s2_np (by decide), s2_nk (by omega)]; exact c2 x hx) (fun y hy => ?_) (fun x hx => by rw [s2_nk (by omega), s2_np (by decide)]; exact c4 x hx) (fun k y hk hky => ?_)
                      · rw [s2_np (by decide), s2_at, bt_or, bt_one (by omega), c3 y hy, htk, Bool.eq_iff_iff]
                        simp
                      · by_cases ek : k = j
                        · subst ek; rw [hz] at hky; cases hky; rw [s2_at]
                        · have hne : y ≠ z := fun e => by
                            subst e
                            exact ek (nd_inj l1 hky hz)
                          rw [s2_nk (by omega), s2_np (by decide)]; exact c5 k y (by omega) hky
                  refine fill 0 (Nat.zero_le _) _ (fun q h1 h2 => by rw [s2_np h1]) (fun x hx => by rw [s2_nk (by omega)]) (fun z hz => by rw [s2_at, bt_0]; simp) (fun x _ => by rw [s2_np (by decide)]) (fun k z hk => by omega)
              refine j_aload_n c dX3_kind_90 rfl ?_
              refine j_getI c fl_X3_62 dX3_kind_91 (Nat.le_of_ble_eq_true rfl) rfl rfl ?_
              rw [hM0.1]
              refine j_istore c dX3_kind_94 (Nat.le_of_ble_eq_true rfl) rfl ?_
              refine j_aload_n c dX3_kind_96 rfl ?_
              refine j_iconst c (nI 0) dX3_kind_97 (by decide) ?_
              refine j_iload_n c dX3_kind_98 rfl ?_
              refine j_callV c kw_X3_90 (sp_laysRow hW hM0.2.2.1 hM0.2.2.2.1 (k := 0) (by decide) (some i) (fun t h => by cases h; exact hi)) dX3_kind_99 rfl rfl (by decide) (Nat.le_of_ble_eq_true rfl) (Nat.le_of_ble_eq_true rfl) rfl rfl ?_
              rintro _ σ1 ⟨rfl, x1a, x1b, x1c, x1d, x1e, x1f⟩
              refine j_aload_n c dX3_kind_102 rfl ?_
              refine j_iconst c (nI 1) dX3_kind_103 (by decide) ?_
              refine j_iload_n c dX3_kind_104 rfl ?_
              refine j_callV c kw_X3_90 (sp_laysRow (T := T) (σ := σ1) hW (by rw [x1a 52 (by decide) (by decide) (by decide)]; exact hM0.2.2.1) (by rw [x1a 53 (by decide) (by decide) (by decide)]; exact hM0.2.2.2.1) (k := 1) (by decide) ob hob) dX3_kind_105 rfl rfl (by decide) (Nat.le_of_ble_eq_true rfl) (Nat.le_of_ble_eq_true rfl) rfl rfl ?_
              rintro _ σ2 ⟨rfl, x2a, x2b, x2c, x2d, x2e, x2f⟩
              refine j_aload_n c dX3_kind_108 rfl ?_
              refine j_iconst c (nI 2) dX3_kind_109 (by decide) ?_
              refine j_iload_n c dX3_kind_110 rfl ?_
              refine j_callV c kw_X3_90 (sp_laysRow (T := T) (σ := σ2) hW (by rw [x2a 52 (by decide) (by decide) (by decide), x1a 52 (by decide) (by decide) (by decide)]; exact hM0.2.2.1) (by rw [x2a 53 (by decide) (by decide) (by decide), x1a 53 (by decide) (by decide) (by decide)]; exact hM0.2.2.2.1) (k := 2) (by decide) od hod) dX3_kind_111 rfl rfl (by decide) (Nat.le_of_ble_eq_true rfl) (Nat.le_of_ble_eq_true rfl) rfl rfl ?_
              rintro _ σ3 ⟨rfl, x3a, x3b, x3c, x3d, x3e, x3f⟩
              refine j_aload_n c dX3_kind_114 rfl ?_
              refine j_getR c fl_X3_43 dX3_kind_115 (Nat.le_of_ble_eq_true rfl) rfl rfl ?_
              refine j_iconst c (nI 3) dX3_kind_118 (by decide) ?_
              refine j_iconst c (nI 0) dX3_kind_119 (by decide) ?_
              refine j_iast c dX3_kind_120 (by first | exact (Nat.le_of_ble_eq_true rfl) | exact hp.lt (by decide)) (by first | exact lf1 hp | exact lf2 hp | exact lf3 hp | exact lf4 hp | exact lf5 hp | exact lf6 hp | rfl) (k := 3) rfl (by decide) (by decide) ?_
              refine j_aload_n c dX3_kind_121 rfl ?_
              refine j_getR c fl_X3_40 dX3_kind_122 (Nat.le_of_ble_eq_true rfl) rfl rfl ?_
              refine j_bipush c (nI 48) dX3_kind_125 (by decide) ?_
              refine j_iload_n c dX3_kind_127 rfl ?_
              refine j_iast c dX3_kind_128 (by first | exact (Nat.le_of_ble_eq_true rfl) | exact hp.lt (by decide)) (by first | exact lf1 hp | exact lf2 hp | exact lf3 hp | exact lf4 hp | exact lf5 hp | exact lf6 hp | rfl) (k := 48) rfl (by decide) (by decide) ?_
              refine j_aload_n c dX3_kind_129 rfl ?_
              refine j_getR c fl_X3_40 dX3_kind_130 (Nat.le_of_ble_eq_true rfl) rfl rfl ?_
              refine j_bipush c (nI 49) dX3_kind_133 (by decide) ?_
              refine j_iload_n c dX3_kind_135 rfl ?_
              refine j_iast c dX3_kind_136 (by first | exact (Nat.le_of_ble_eq_true rfl) | exact hp.lt (by decide)) (by first | exact lf1 hp | exact lf2 hp | exact lf3 hp | exact lf4 hp | exact lf5 hp | exact lf6 hp | rfl) (k := 49) rfl (by decide) (by decide) ?_
              refine j_aload_n c dX3_kind_137 rfl ?_
              refine j_getR c fl_X3_40 dX3_kind_138 (Nat.le_of_ble_eq_true rfl) rfl rfl ?_
              refine j_bipush c (nI 50) dX3_kind_141 (by decide) ?_
              refine j_iload_n c dX3_kind_143 rfl ?_
              refine j_iast c dX3_kind_144 (by first | exact (Nat.le_of_ble_eq_true rfl) | exact hp.lt (by decide)) (by first | exact lf1 hp | exact lf2 hp | exact lf3 hp | exact lf4 hp | exact lf5 hp | exact lf6 hp | rfl) (k := 50) rfl (by decide) (by decide) ?_
              refine j_aload_n c dX3_kind_145 rfl ?_
              refine j_getR c fl_X3_46 dX3_kind_146 (Nat.le_of_ble_eq_true rfl) rfl rfl ?_
              refine j_iconst c (nI 3) dX3_kind_149 (by decide) ?_
              refine j_iload_n c dX3_kind_150 rfl ?_
              refine j_iconst c (-1) dX3_kind_151 (by decide) ?_
              have fin : ∀ v : Int32, v = nI P.length → J Γ 169 [some (.inr 50), some (.inl (nI i)), some (.inl (oI ob)), some (.inl (oI od)), some (.inl (bI q)), some (.inl (nI (tn T))), none] [.inl v, .inl (nI 3), .inr 63] (s2 (s2 (s2 (s2 σ3 62 3 (nI 0)) 61 48 (nI i)) 61 49 (oI ob)) 61 50 (oI od)) := by
                intro v hv
                subst hv
                refine j_iast c dX3_kind_169 (by first | exact (Nat.le_of_ble_eq_true rfl) | exact hp.lt (by decide)) (by first | exact lf1 hp | exact lf2 hp | exact lf3 hp | exact lf4 hp | exact lf5 hp | exact lf6 hp | rfl) (k := 3) rfl (by decide) (by decide) ?_
                refine merge _ (fun q h1 h2 h3 => ?_) (fun k hk => ?_)
                · rw [s2_np h3, s2_np h1, s2_np h1, s2_np h1, s2_np h2, x3a q h1 h2 h3, x2a q h1 h2 h3, x1a q h1 h2 h3]
                · have hl16 : ∀ t, t < tn T → (tls T t).length ≤ 16 := fun t h => by have := hW.len h; omega
                  have ol16 : ∀ o : Option Nat, (∀ t, o = some t → t < tn T) → ((o.map (tls T)).getD []).length ≤ 16 := fun o h => by
                    cases o with
                    | none => simp
                    | some t => exact hl16 t (h t rfl)
                  rcases (show k = 0 ∨ k = 1 ∨ k = 2 ∨ k = 3 by omega) with rfl | rfl | rfl | rfl
                  · rw [hr0]
                    refine ⟨0, by rw [Nat.zero_add]; exact hl16 i hi, ?_, ?_, fun j v hj => ?_⟩
                    · rw [s2_np (by decide), s2_np (by decide), s2_np (by decide), s2_np (by decide), s2_nk (by decide), (x3b 0 (by decide)).1, (x2b 0 (by decide)).1]; exact x1d
                    · rw [s2_nk (by decide), s2_np (by decide), s2_np (by decide), s2_np (by decide), s2_np (by decide), (x3b 0 (by decide)).2, (x2b 0 (by decide)).2, Nat.zero_add]; exact x1e
                    · have hj2 := (List.getElem?_eq_some_iff.mp hj).1
                      have := hl16 i hi
                      rw [s2_np (by decide), s2_nk (by omega), s2_nk (by omega), s2_nk (by omega), s2_np (by decide), x3c _ (by omega), x2c _ (by omega), Nat.zero_add]
                      exact x1f j v hj
                  · rw [hr1]
                    have h16 := ol16 ob hob
                    refine ⟨0, by rw [Nat.zero_add]; exact h16, ?_, ?_, fun j v hj => ?_⟩
                    · rw [s2_np (by decide), s2_np (by decide), s2_np (by decide), s2_np (by decide), s2_nk (by decide), (x3b 1 (by decide)).1]; exact x2d
                    · rw [s2_nk (by decide), s2_np (by decide), s2_np (by decide), s2_np (by decide), s2_np (by decide), (x3b 1 (by decide)).2, Nat.zero_add]; exact x2e
                    · have hj2 := (List.getElem?_eq_some_iff.mp hj).1
                      rw [s2_np (by decide), s2_nk (by omega), s2_nk (by omega), s2_nk (by omega), s2_np (by decide), x3c _ (by omega), Nat.zero_add]
                      exact x2f j v hj
                  · rw [hr2]
                    have h16 := ol16 od hod
                    refine ⟨0, by rw [Nat.zero_add]; exact h16, ?_, ?_, fun j v hj => ?_⟩
                    · rw [s2_np (by decide), s2_np (by decide), s2_np (by decide), s2_np (by decide), s2_nk (by decide)]; exact x3d
                    · rw [s2_nk (by decide), s2_np (by decide), s2_np (by decide), s2_np (by decide), s2_np (by decide), Nat.zero_add]; exact x3e
                    · have hj2 := (List.getElem?_eq_some_iff.mp hj).1
                      rw [s2_np (by decide), s2_nk (by omega), s2_nk (by omega), s2_nk (by omega), s2_np (by decide), Nat.zero_add]
                      exact x3f j v hj
                  · rw [hr3]
                    refine ⟨0, by omega, ?_, ?_, fun j v hj => ?_⟩
                    · rw [s2_np (by decide), s2_np (by decide), s2_np (by decide), s2_np (by decide), s2_at]
                    · rw [s2_at, Nat.zero_add]
                    · rw [s2_np (by decide), Nat.zero_add]
                      have hj2 := (List.getElem?_eq_some_iff.mp hj).1
                      rcases (show j = 0 ∨ j = 1 ∨ j = 2 by omega) with rfl | rfl | rfl
                      · rw [s2_nk (by decide), s2_nk (by decide), s2_at]
                        rw [hPv] at hj
                        rw [parO_a hj]
                      · rw [s2_nk (by decide), s2_at]
                        rw [hPv] at hj
                        rw [parO_b hj]
                        rfl
                      · rw [s2_at]
                        rw [hPv] at hj
                        rw [parO_d hj]
                        rfl
              refine j_icmp_ne c 159 dX3_kind_152 (by decide) (fun w => ?_) (fun w => ?_)
              · rw [hbn] at w
                refine j_iload_n c dX3_kind_159 rfl ?_
                refine j_iconst c (-1) dX3_kind_160 (by decide) ?_
                refine j_icmp_ne c 168 dX3_kind_161 (by decide) (fun w2 => ?_) (fun w2 => ?_)
                · rw [hdn] at w2
                  refine j_iconst c (nI 3) dX3_kind_168 (by decide) ?_
                  refine fin _ ?_
                  rw [hcnt]
                  cases ob with
                  | none => exact absurd rfl w
                  | some j =>
                    cases od with
                    | none => exact absurd rfl w2
                    | some k => rfl
                · rw [hdn] at w2
                  refine j_iconst c (nI 2) dX3_kind_164 (by decide) ?_
                  refine j_goto c 169 dX3_kind_165 (by decide) ?_
                  refine fin _ ?_
                  rw [hcnt, w2]
                  cases ob with
                  | none => exact absurd rfl w
                  | some j => rfl
              · rw [hbn] at w
                refine j_iconst c (nI 1) dX3_kind_155 (by decide) ?_
                refine j_goto c 169 dX3_kind_156 (by decide) ?_
                refine fin _ ?_
                rw [hcnt, w]
                rfl
            refine j_iload_n c dX3_kind_78 rfl ?_
            refine j_iload_n c dX3_kind_79 rfl ?_
            refine j_icmp_ne c 90 dX3_kind_80 (by decide) (fun x3 => ?_) (fun x3 => ?_)
            · exact goodE (by simp [x3])
            · refine j_iload_n c dX3_kind_83 rfl ?_
              refine j_iconst c (-1) dX3_kind_84 (by decide) ?_
              refine j_icmp_eq c 90 dX3_kind_85 (by decide) (fun x4 => ?_) (fun x4 => ?_)
              · exact goodE (by simp [x4])
              · have x5 : ¬ d = -1 := x3 ▸ x4
                exact bad _ (by rw [hpar]; simp [x3, x5])
  refine j_aload_n c dX3_kind_0 rfl ?_
  refine j_iconst c (nI 0) dX3_kind_1 (by decide) ?_
  refine j_putI c fl_X3_65 dX3_kind_2 (Nat.le_of_ble_eq_true rfl) rfl rfl ?_
  refine j_aload_n c dX3_kind_5 rfl ?_
  refine j_iload_n c dX3_kind_6 rfl ?_
  refine j_callV1 c kw_X3_87 (sp_isClass _ a (tn T) hM0.1 hn.1 hn.2) dX3_kind_7 rfl rfl (by decide) (Nat.le_of_ble_eq_true rfl) (Nat.le_of_ble_eq_true rfl) rfl rfl ?_
  refine j_if_eq c 51 dX3_kind_10 (by decide) (fun e => ?_) (fun e => ?_)
  · refine j_iconst c (nI 0) dX3_kind_51 (by decide) ?_
    exact flag false (by rw [bI_z e]; rfl)
  · have e2 := bI_nz e
    have third : (if b = -1 then decide (d = -1) else isN b (tn T)) = true → J Γ 34 [some (.inr 50), some (.inl a), some (.inl b), some (.inl d), none, none, none] [] (s2 σ 50 0 (nI 0)) := by
      intro hb
      refine j_iload_n c dX3_kind_34 rfl ?_
      refine j_iconst c (-1) dX3_kind_35 (by decide) ?_
      refine j_icmp_eq c 47 dX3_kind_36 (by decide) (fun g => ?_) (fun g => ?_)
      · refine j_iconst c (nI 1) dX3_kind_47 (by decide) ?_
        refine j_goto c 52 dX3_kind_48 (by decide) ?_
        exact flag true (by rw [e2, hb]; simp [g])
      · refine j_aload_n c dX3_kind_39 rfl ?_
        refine j_iload_n c dX3_kind_40 rfl ?_
        refine j_callV1 c kw_X3_87 (sp_isClass _ d (tn T) hM0.1 hn.1 hn.2) dX3_kind_41 rfl rfl (by decide) (Nat.le_of_ble_eq_true rfl) (Nat.le_of_ble_eq_true rfl) rfl rfl ?_
        refine j_if_eq c 51 dX3_kind_44 (by decide) (fun q => ?_) (fun q => ?_)
        · refine j_iconst c (nI 0) dX3_kind_51 (by decide) ?_
          exact flag false (by rw [bI_z q]; simp [g])
        · refine j_iconst c (nI 1) dX3_kind_47 (by decide) ?_
          refine j_goto c 52 dX3_kind_48 (by decide) ?_
          exact flag true (by rw [e2, hb, bI_nz q]; simp)
    refine j_iload_n c dX3_kind_13 rfl ?_
    refine j_iconst c (-1) dX3_kind_14 (by decide) ?_
    refine j_icmp_ne c 26 dX3_kind_15 (by decide) (fun g => ?_) (fun g => ?_)
    · refine j_aload_n c dX3_kind_26 rfl ?_
      refine j_iload_n c dX3_kind_27 rfl ?_
      refine j_callV1 c kw_X3_87 (sp_isClass _ b (tn T) hM0.1 hn.1 hn.2) dX3_kind_28 rfl rfl (by decide) (Nat.le_of_ble_eq_true rfl) (Nat.le_of_ble_eq_true rfl) rfl rfl ?_
      refine j_if_eq c 51 dX3_kind_31 (by decide) (fun q => ?_) (fun q => ?_)
      · refine j_iconst c (nI 0) dX3_kind_51 (by decide) ?_
        exact flag false (by rw [if_neg g, bI_z q]; simp)
      · exact third (by rw [if_neg g]; exact bI_nz q)
    · refine j_iload_n c dX3_kind_18 rfl ?_
      refine j_iconst c (-1) dX3_kind_19 (by decide) ?_
      refine j_icmp_ne c 51 dX3_kind_20 (by decide) (fun q => ?_) (fun q => ?_)
      · refine j_iconst c (nI 0) dX3_kind_51 (by decide) ?_
        exact flag false (by rw [if_pos g]; simp [q])
      · refine j_goto c 34 dX3_kind_23 (by decide) ?_
        exact third (by rw [if_pos g]; simp [q])
theorem sp_isM {T : TS} {σ : Sg} (hM : InvM T none σ) (hW : WF T) (x y : Int32) : Sp yX3_is cX3_is 3 (some .boolean) 2 [.inr 50, .inl x, .inl y] σ (qM σ (bI (aIs T x y))) := by
  have hn := hW.1
  have hM0 := hM.keep (k0 σ (nI 0))
  refine Sp.intro rfl (Nat.le_of_ble_eq_true rfl) (fun Γ c r => ?_)
  show J Γ 0 [some (.inr 50), some (.inl x), some (.inl y)] [] σ
  refine j_aload_n c dX3_is_0 rfl ?_
  refine j_iconst c (nI 0) dX3_is_1 (by decide) ?_
  refine j_putI c fl_X3_65 dX3_is_2 (Nat.le_of_ble_eq_true rfl) rfl rfl ?_
  refine j_aload_n c dX3_is_5 rfl ?_
  refine j_iload_n c dX3_is_6 rfl ?_
  refine j_callV1 c kw_X3_87 (sp_isClass _ x (tn T) hM0.1 hn.1 hn.2) dX3_is_7 rfl rfl (by decide) (Nat.le_of_ble_eq_true rfl) (Nat.le_of_ble_eq_true rfl) rfl rfl ?_
  refine j_if_eq c 38 dX3_is_10 (by decide) (fun e => ?_) (fun e => ?_)
  · refine j_iconst c (nI 0) dX3_is_38 (by decide) ?_
    exact j_iret c r dX3_is_39 rfl ⟨by simp [aIs, bI_z e, bI], k0 σ _⟩
  · have e2 := bI_nz e
    refine j_aload_n c dX3_is_13 rfl ?_
    refine j_iload_n c dX3_is_14 rfl ?_
    refine j_callV1 c kw_X3_87 (sp_isClass _ y (tn T) hM0.1 hn.1 hn.2) dX3_is_15 rfl rfl (by decide) (Nat.le_of_ble_eq_true rfl) (Nat.le_of_ble_eq_true rfl) rfl rfl ?_
    refine j_if_eq c 38 dX3_is_18 (by decide) (fun g => ?_) (fun g => ?_)
    · refine j_iconst c (nI 0) dX3_is_38 (by decide) ?_
      exact j_iret c r dX3_is_39 rfl ⟨by simp [aIs, bI_z g, bI], k0 σ _⟩
    · have g2 := bI_nz g
      obtain ⟨i, hi, hi2, rfl⟩ := isN_of e2
      obtain ⟨j, hj, hj2, rfl⟩ := isN_of g2
      have ha : aIs T (nI i) (nI j) = up (tls T) i j := by unfold aIs; rw [e2, g2, nI_clamp hi2, nI_clamp hj2]; rfl
      rw [ha] at r
      refine j_aload_n c dX3_is_21 rfl ?_
      refine j_getR c fl_X3_7 dX3_is_22 (Nat.le_of_ble_eq_true rfl) rfl rfl ?_
      refine j_iload_n c dX3_is_25 rfl ?_
      refine j_iald c dX3_is_26 (Nat.le_of_ble_eq_true rfl) rfl rfl (by omega) (by decide) ?_
      refine j_iload_n c dX3_is_27 rfl ?_
      refine j_callS1 c kw_X3_97 (sp_isOn _ _ j (by omega)) dX3_is_28 rfl rfl (by decide) (Nat.le_of_ble_eq_true rfl) ?_
      rw [hM0.2.1 i hi j (by omega)]
      refine j_if_eq c 38 dX3_is_31 (by decide) (fun q => ?_) (fun q => ?_)
      · refine j_iconst c (nI 0) dX3_is_38 (by decide) ?_
        exact j_iret c r dX3_is_39 rfl ⟨by rw [bI_z q]; rfl, k0 σ _⟩
      · refine j_iconst c (nI 1) dX3_is_34 (by decide) ?_
        refine j_goto c 39 dX3_is_35 (by decide) ?_
        exact j_iret c r dX3_is_39 rfl ⟨by rw [bI_nz q]; rfl, k0 σ _⟩
theorem sp_listM {T : TS} {σ : Sg} (hM : InvM T none σ) (hW : WF T) (x k : Int32) : Sp yX3_list cX3_list 3 (some .int) 2 [.inr 50, .inl x, .inl k] σ (qM σ (aList T x k)) := by
  have hn := hW.1
  have hM0 := hM.keep (k0 σ (nI 0))
  refine Sp.intro rfl (Nat.le_of_ble_eq_true rfl) (fun Γ c r => ?_)
  show J Γ 0 [some (.inr 50), some (.inl x), some (.inl k)] [] σ
  refine j_aload_n c dX3_list_0 rfl ?_
  refine j_iconst c (nI 0) dX3_list_1 (by decide) ?_
  refine j_putI c fl_X3_65 dX3_list_2 (Nat.le_of_ble_eq_true rfl) rfl rfl ?_
  refine j_aload_n c dX3_list_5 rfl ?_
  refine j_iload_n c dX3_list_6 rfl ?_
  refine j_callV1 c kw_X3_87 (sp_isClass _ x (tn T) hM0.1 hn.1 hn.2) dX3_list_7 rfl rfl (by decide) (Nat.le_of_ble_eq_true rfl) (Nat.le_of_ble_eq_true rfl) rfl rfl ?_
  refine j_if_ne c 15 dX3_list_10 (by decide) (fun e => ?_) (fun e => ?_)
  · have e2 := bI_nz e
    obtain ⟨i, hi, hi2, rfl⟩ := isN_of e2
    have hl := hW.len hi
    have h53 := hM0.2.2.2.1 i hi
    have hl1 : 1 ≤ (tls T i).length := by
      have := (hW.2.1 i hi).2.1
      cases hh : tls T i with
      | nil => rw [hh] at this; cases this
      | cons a l => simp
    have ha : aList T (nI i) k = (if k = -1 then nI (tls T i).length else if isN k (tls T i).length then nI ((tls T i).getD k.toNatClampNeg 0) else -1) := by unfold aList; rw [e2, nI_clamp hi2]; rfl
    rw [ha] at r
    refine j_iload_n c dX3_list_15 rfl ?_
    refine j_iconst c (-1) dX3_list_16 (by decide) ?_
    refine j_icmp_ne c 29 dX3_list_17 (by decide) (fun g => ?_) (fun g => ?_)
    · refine j_iload_n c dX3_list_29 rfl ?_
      refine j_iconst c (nI 0) dX3_list_30 (by decide) ?_
      refine j_aload_n c dX3_list_31 rfl ?_
      refine j_getR c fl_X3_16 dX3_list_32 (Nat.le_of_ble_eq_true rfl) rfl rfl ?_
      refine j_iload_n c dX3_list_35 rfl ?_
      refine j_iald c dX3_list_36 (Nat.le_of_ble_eq_true rfl) rfl rfl (by omega) (by decide) ?_
      rw [h53]
      refine j_iconst c (nI 1) dX3_list_37 (by decide) ?_
      refine j_isub c _ dX3_list_38 (by first | exact pk_sub (by omega) | rfl) ?_
      refine j_callS1 c kw_X3_68 (sp_inN _ k _ (by omega) hl1) dX3_list_39 rfl rfl (by decide) (Nat.le_of_ble_eq_true rfl) ?_
      refine j_if_eq c 59 dX3_list_42 (by decide) (fun q => ?_) (fun q => ?_)
      · refine j_iconst c (-1) dX3_list_59 (by decide) ?_
        exact j_iret c r dX3_list_60 rfl ⟨by rw [if_neg g, bI_z q]; rfl, k0 σ _⟩
      · have q2 := bI_nz q
        obtain ⟨j, hj, hj2, rfl⟩ := isN_of q2
        have hg : (tls T i)[j]? = some ((tls T i).getD j 0) := by simp [hj]
        refine j_aload_n c dX3_list_45 rfl ?_
        refine j_getR c fl_X3_13 dX3_list_46 (Nat.le_of_ble_eq_true rfl) rfl rfl ?_
        refine j_bipush c (nI 16) dX3_list_49 (by decide) ?_
        refine j_iload_n c dX3_list_51 rfl ?_
        refine j_imul c _ dX3_list_52 (by first | exact pk_mul _ _ | rfl) ?_
        refine j_iload_n c dX3_list_53 rfl ?_
        refine j_iadd c _ dX3_list_54 (by first | exact nI_add _ _ | rfl) ?_
        refine j_iald c dX3_list_55 (Nat.le_of_ble_eq_true rfl) rfl rfl (by omega) (by decide) ?_
        rw [hM0.2.2.1 i hi j _ hg]
        refine j_goto c 60 dX3_list_56 (by decide) ?_
        exact j_iret c r dX3_list_60 rfl ⟨by rw [if_neg g, q2, nI_clamp hj2]; rfl, k0 σ _⟩
    · refine j_aload_n c dX3_list_20 rfl ?_
      refine j_getR c fl_X3_16 dX3_list_21 (Nat.le_of_ble_eq_true rfl) rfl rfl ?_
      refine j_iload_n c dX3_list_24 rfl ?_
      refine j_iald c dX3_list_25 (Nat.le_of_ble_eq_true rfl) rfl rfl (by omega) (by decide) ?_
      rw [h53]
      refine j_goto c 60 dX3_list_26 (by decide) ?_
      exact j_iret c r dX3_list_60 rfl ⟨by rw [if_pos g], k0 σ _⟩
  · refine j_iconst c (-1) dX3_list_13 (by decide) ?_
    exact j_iret c r dX3_list_14 rfl ⟨by simp [aList, bI_z e], k0 σ _⟩
theorem sp_isMeet {T : TS} {σ : Sg} (hM : InvM T none σ) (hW : WF T) {a x y : Nat} (ha : a < tn T) (hx : x < tn T) (hy : y < tn T) : Sp yX3_isMeet cX3_isMeet 5 (some .boolean) 1 [.inr 50, .inl (nI a), .inl (nI x), .inl (nI y)] σ (rt σ (.inl (bI (meB (tls T) (tn T) a x y)))) := by
  have hn := hW.1
  refine Sp.intro rfl (Nat.le_of_ble_eq_true rfl) (fun Γ c r => ?_)
  show J Γ 0 [some (.inr 50), some (.inl (nI a)), some (.inl (nI x)), some (.inl (nI y)), none] [] σ
  refine j_aload_n c dX3_isMeet_0 rfl ?_
  refine j_getR c fl_X3_7 dX3_isMeet_1 (Nat.le_of_ble_eq_true rfl) rfl rfl ?_
  refine j_iload_n c dX3_isMeet_4 rfl ?_
  refine j_iald c dX3_isMeet_5 (Nat.le_of_ble_eq_true rfl) rfl rfl (by omega) (by decide) ?_
  refine j_iload_n c dX3_isMeet_6 rfl ?_
  refine j_callS1 c kw_X3_97 (sp_isOn σ _ x (by omega)) dX3_isMeet_7 rfl rfl (by decide) (Nat.le_of_ble_eq_true rfl) ?_
  rw [hM.2.1 a ha x (by omega)]
  refine j_if_eq c 26 dX3_isMeet_10 (by decide) (fun e => ?_) (fun e => ?_)
  · refine j_iconst c (nI 0) dX3_isMeet_26 (by decide) ?_
    exact j_iret c r dX3_isMeet_27 rfl (rtF (by simp [meB, bI_z e]))
  · refine j_aload_n c dX3_isMeet_13 rfl ?_
    refine j_getR c fl_X3_7 dX3_isMeet_14 (Nat.le_of_ble_eq_true rfl) rfl rfl ?_
    refine j_iload_n c dX3_isMeet_17 rfl ?_
    refine j_iald c dX3_isMeet_18 (Nat.le_of_ble_eq_true rfl) rfl rfl (by omega) (by decide) ?_
    refine j_iload_n c dX3_isMeet_19 rfl ?_
    refine j_callS1 c kw_X3_97 (sp_isOn σ _ y (by omega)) dX3_isMeet_20 rfl rfl (by decide) (Nat.le_of_ble_eq_true rfl) ?_
    rw [hM.2.1 a ha y (by omega)]
    refine j_if_ne c 28 dX3_isMeet_23 (by decide) (fun g => ?_) (fun g => ?_)
    · refine j_iconst c (nI 0) dX3_isMeet_28 (by decide) ?_
      refine j_istore c dX3_isMeet_29 (Nat.le_of_ble_eq_true rfl) rfl ?_
      have key : ∀ k, k ≤ tn T → (∀ d, d < k → (d == a || (!up (tls T) a d || (!up (tls T) d x || !up (tls T) d y))) = true) → J Γ 31 [some (.inr 50), some (.inl (nI a)), some (.inl (nI x)), some (.inl (nI y)), some (.inl (nI k))] [] σ := by
        refine loopN _ ?_ ?_
        · intro h0
          refine j_iload c dX3_isMeet_31 rfl ?_
          refine j_aload_n c dX3_isMeet_33 rfl ?_
          refine j_getI c fl_X3_62 dX3_isMeet_34 (Nat.le_of_ble_eq_true rfl) rfl rfl ?_
          rw [hM.1]
          refine j_icmp_ge c 96 dX3_isMeet_37 (by decide) (fun _ => ?_) (fun h_9 => absurd (nI_le (Nat.le_refl _) (by omega)) h_9)
          refine j_iconst c (nI 1) dX3_isMeet_96 (by decide) ?_
          exact j_iret c r dX3_isMeet_97 rfl (rtT (by simp only [meB, bI_nz e, bI_nz g, Bool.true_and]; exact allU.mpr h0))
        · intro k hk ih h0
          have nxt : (k == a || (!up (tls T) a k || (!up (tls T) k x || !up (tls T) k y))) = true → J Γ 90 [some (.inr 50), some (.inl (nI a)), some (.inl (nI x)), some (.inl (nI y)), some (.inl (nI k))] [] σ := by
            intro h
            refine j_iinc c _ dX3_isMeet_90 rfl (by first | exact nI_1 _ | exact pk_m1 _ | rfl) rfl ?_
            refine j_goto c 31 dX3_isMeet_93 (by decide) ?_
            refine ih (fun d hd => ?_)
            by_cases ed : d = k
            · subst ed; exact h
            · exact h0 d (by omega)
          refine j_iload c dX3_isMeet_31 rfl ?_
          refine j_aload_n c dX3_isMeet_33 rfl ?_
          refine j_getI c fl_X3_62 dX3_isMeet_34 (Nat.le_of_ble_eq_true rfl) rfl rfl ?_
          rw [hM.1]
          refine j_icmp_ge c 96 dX3_isMeet_37 (by decide) (fun h_9 => absurd h_9 (nI_ge hk (by omega))) (fun _ => ?_)
          refine j_iload c dX3_isMeet_40 rfl ?_
          refine j_iload_n c dX3_isMeet_42 rfl ?_
          refine j_icmp_eq c 90 dX3_isMeet_43 (by decide) (fun q => ?_) (fun q => ?_)
          · rw [nI_eq (by omega) (by omega)] at q
            exact nxt (by simp [q])
          · rw [nI_eq (by omega) (by omega)] at q
            refine j_aload_n c dX3_isMeet_46 rfl ?_
            refine j_getR c fl_X3_7 dX3_isMeet_47 (Nat.le_of_ble_eq_true rfl) rfl rfl ?_
            refine j_iload_n c dX3_isMeet_50 rfl ?_
            refine j_iald c dX3_isMeet_51 (Nat.le_of_ble_eq_true rfl) rfl rfl (by omega) (by decide) ?_
            refine j_iload c dX3_isMeet_52 rfl ?_
            refine j_callS1 c kw_X3_97 (sp_isOn σ _ k (by omega)) dX3_isMeet_54 rfl rfl (by decide) (Nat.le_of_ble_eq_true rfl) ?_
            rw [hM.2.1 a ha k (by omega)]
            refine j_if_eq c 90 dX3_isMeet_57 (by decide) (fun u => ?_) (fun u => ?_)
            · exact nxt (by simp [bI_z u])
            · refine j_aload_n c dX3_isMeet_60 rfl ?_
              refine j_getR c fl_X3_7 dX3_isMeet_61 (Nat.le_of_ble_eq_true rfl) rfl rfl ?_
              refine j_iload c dX3_isMeet_64 rfl ?_
              refine j_iald c dX3_isMeet_66 (Nat.le_of_ble_eq_true rfl) rfl rfl (by omega) (by decide) ?_
              refine j_iload_n c dX3_isMeet_67 rfl ?_
              refine j_callS1 c kw_X3_97 (sp_isOn σ _ x (by omega)) dX3_isMeet_68 rfl rfl (by decide) (Nat.le_of_ble_eq_true rfl) ?_
              rw [hM.2.1 k hk x (by omega)]
              refine j_if_eq c 90 dX3_isMeet_71 (by decide) (fun v => ?_) (fun v => ?_)
              · exact nxt (by simp [bI_z v])
              · refine j_aload_n c dX3_isMeet_74 rfl ?_
                refine j_getR c fl_X3_7 dX3_isMeet_75 (Nat.le_of_ble_eq_true rfl) rfl rfl ?_
                refine j_iload c dX3_isMeet_78 rfl ?_
                refine j_iald c dX3_isMeet_80 (Nat.le_of_ble_eq_true rfl) rfl rfl (by omega) (by decide) ?_
                refine j_iload_n c dX3_isMeet_81 rfl ?_
                refine j_callS1 c kw_X3_97 (sp_isOn σ _ y (by omega)) dX3_isMeet_82 rfl rfl (by decide) (Nat.le_of_ble_eq_true rfl) ?_
                rw [hM.2.1 k hk y (by omega)]
                refine j_if_eq c 90 dX3_isMeet_85 (by decide) (fun w => ?_) (fun w => ?_)
                · exact nxt (by simp [bI_z w])
                · refine j_iconst c (nI 0) dX3_isMeet_88 (by decide) ?_
                  exact j_iret c r dX3_isMeet_89 rfl (rtF (by
                    cases hh : meB (tls T) (tn T) a x y with
                    | false => rfl
                    | true =>
                      simp only [meB, Bool.and_eq_true] at hh
                      have h1 := allU.mp hh.2.2 k hk
                      simp [q, bI_nz u, bI_nz v, bI_nz w] at h1))
      exact key 0 (Nat.zero_le _) (fun d hd => by omega)
    · refine j_iconst c (nI 0) dX3_isMeet_26 (by decide) ?_
      exact j_iret c r dX3_isMeet_27 rfl (rtF (by simp [meB, bI_z g]))
theorem sp_meetM {T : TS} {σ : Sg} (hM : InvM T none σ) (hW : WF T) (x y k : Int32) : Sp yX3_meet cX3_meet 6 (some .int) 2 [.inr 50, .inl x, .inl y, .inl k] σ (qM σ (aMeet T x y k)) := by
  have hn := hW.1
  have hM0 := hM.keep (k0 σ (nI 0))
  refine Sp.intro rfl (Nat.le_of_ble_eq_true rfl) (fun Γ c r => ?_)
  show J Γ 0 [some (.inr 50), some (.inl x), some (.inl y), some (.inl k), none, none] [] σ
  refine j_aload_n c dX3_meet_0 rfl ?_
  refine j_iconst c (nI 0) dX3_meet_1 (by decide) ?_
  refine j_putI c fl_X3_65 dX3_meet_2 (Nat.le_of_ble_eq_true rfl) rfl rfl ?_
  refine j_aload_n c dX3_meet_5 rfl ?_
  refine j_iload_n c dX3_meet_6 rfl ?_
  refine j_callV1 c kw_X3_87 (sp_isClass _ x (tn T) hM0.1 hn.1 hn.2) dX3_meet_7 rfl rfl (by decide) (Nat.le_of_ble_eq_true rfl) (Nat.le_of_ble_eq_true rfl) rfl rfl ?_
  refine j_if_eq c 21 dX3_meet_10 (by decide) (fun e => ?_) (fun e => ?_)
  · refine j_iconst c (-1) dX3_meet_21 (by decide) ?_
    exact j_iret c r dX3_meet_22 rfl ⟨by simp [aMeet, bI_z e], k0 σ _⟩
  · have e2 := bI_nz e
    refine j_aload_n c dX3_meet_13 rfl ?_
    refine j_iload_n c dX3_meet_14 rfl ?_
    refine j_callV1 c kw_X3_87 (sp_isClass _ y (tn T) hM0.1 hn.1 hn.2) dX3_meet_15 rfl rfl (by decide) (Nat.le_of_ble_eq_true rfl) (Nat.le_of_ble_eq_true rfl) rfl rfl ?_
    refine j_if_ne c 23 dX3_meet_18 (by decide) (fun g => ?_) (fun g => ?_)
    · have g2 := bI_nz g
      obtain ⟨i, hi, hi2, rfl⟩ := isN_of e2
      obtain ⟨j, hj, hj2, rfl⟩ := isN_of g2
      have ha : aMeet T (nI i) (nI j) k = kth (fun c => meB (tls T) (tn T) c i j) (tn T) k := by unfold aMeet; rw [e2, g2, nI_clamp hi2, nI_clamp hj2]; rfl
      rw [ha] at r
      generalize hP : (fun c => meB (tls T) (tn T) c i j) = P at r
      refine j_iconst c (nI 0) dX3_meet_23 (by decide) ?_
      refine j_istore c dX3_meet_24 (Nat.le_of_ble_eq_true rfl) rfl ?_
      refine j_iconst c (nI 0) dX3_meet_26 (by decide) ?_
      refine j_istore c dX3_meet_27 (Nat.le_of_ble_eq_true rfl) rfl ?_
      have key : ∀ n, n ≤ tn T → (∀ q, q < n → (P q && decide (nI (cnt P q) = k)) = false) → J Γ 29 [some (.inr 50), some (.inl (nI i)), some (.inl (nI j)), some (.inl k), some (.inl (nI (cnt P n))), some (.inl (nI n))] [] (s2 σ 50 0 (nI 0)) := by
        refine loopN _ ?_ ?_
        · intro h0
          refine j_iload c dX3_meet_29 rfl ?_
          refine j_aload_n c dX3_meet_31 rfl ?_
          refine j_getI c fl_X3_62 dX3_meet_32 (Nat.le_of_ble_eq_true rfl) rfl rfl ?_
          rw [hM0.1]
          refine j_icmp_ge c 67 dX3_meet_35 (by decide) (fun _ => ?_) (fun h_9 => absurd (nI_le (Nat.le_refl _) (by omega)) h_9)
          refine j_iload_n c dX3_meet_67 rfl ?_
          refine j_iconst c (-1) dX3_meet_68 (by decide) ?_
          refine j_icmp_ne c 77 dX3_meet_69 (by decide) (fun q => ?_) (fun q => ?_)
          · refine j_iconst c (-1) dX3_meet_77 (by decide) ?_
            exact j_iret c r dX3_meet_78 rfl ⟨by rw [kth_no h0, if_neg q], k0 σ _⟩
          · refine j_iload c dX3_meet_72 rfl ?_
            refine j_goto c 78 dX3_meet_74 (by decide) ?_
            exact j_iret c r dX3_meet_78 rfl ⟨by rw [kth_no h0, if_pos q], k0 σ _⟩
        · intro n hn1 ih h0
          refine j_iload c dX3_meet_29 rfl ?_
          refine j_aload_n c dX3_meet_31 rfl ?_
          refine j_getI c fl_X3_62 dX3_meet_32 (Nat.le_of_ble_eq_true rfl) rfl rfl ?_
          rw [hM0.1]
          refine j_icmp_ge c 67 dX3_meet_35 (by decide) (fun h_9 => absurd h_9 (nI_ge hn1 (by omega))) (fun _ => ?_)
          refine j_aload_n c dX3_meet_38 rfl ?_
          refine j_iload c dX3_meet_39 rfl ?_
          refine j_iload_n c dX3_meet_41 rfl ?_
          refine j_iload_n c dX3_meet_42 rfl ?_
          refine j_callV1 c kw_X3_101 (sp_isMeet hM0 hW hn1 hi hj) dX3_meet_43 rfl rfl (by decide) (Nat.le_of_ble_eq_true rfl) (Nat.le_of_ble_eq_true rfl) rfl rfl ?_
          refine j_if_eq c 61 dX3_meet_46 (by decide) (fun q => ?_) (fun q => ?_)
          · have hp : P n = false := by rw [← hP]; exact bI_z q
            have e1 : cnt P (n + 1) = cnt P n := by simp [cnt, hp]
            rw [e1] at ih
            refine j_iinc c _ dX3_meet_61 rfl (by first | exact nI_1 _ | exact pk_m1 _ | rfl) rfl ?_
            refine j_goto c 29 dX3_meet_64 (by decide) ?_
            refine ih (fun q hq => ?_)
            by_cases eq : q = n
            · subst eq; simp [hp]
            · exact h0 q (by omega)
          · have hp : P n = true := by rw [← hP]; exact bI_nz q
            refine j_iload c dX3_meet_49 rfl ?_
            refine j_iload_n c dX3_meet_51 rfl ?_
            refine j_icmp_ne c 58 dX3_meet_52 (by decide) (fun u => ?_) (fun u => ?_)
            · have e1 : cnt P (n + 1) = cnt P n + 1 := by simp [cnt, hp]
              rw [e1] at ih
              refine j_iinc c _ dX3_meet_58 rfl (by first | exact nI_1 _ | exact pk_m1 _ | rfl) rfl ?_
              refine j_iinc c _ dX3_meet_61 rfl (by first | exact nI_1 _ | exact pk_m1 _ | rfl) rfl ?_
              refine j_goto c 29 dX3_meet_64 (by decide) ?_
              refine ih (fun q hq => ?_)
              by_cases eq : q = n
              · subst eq; simp [u]
              · exact h0 q (by omega)
            · refine j_iload c dX3_meet_55 rfl ?_
              exact j_iret c r dX3_meet_57 rfl ⟨by rw [kth_hit hn1 hp u h0], k0 σ _⟩
      exact key 0 (Nat.zero_le _) (fun q hq => by omega)
    · refine j_iconst c (-1) dX3_meet_21 (by decide) ?_
      exact j_iret c r dX3_meet_22 rfl ⟨by simp [aMeet, bI_z g], k0 σ _⟩
