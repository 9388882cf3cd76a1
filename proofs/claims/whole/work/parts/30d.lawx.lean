-- ===== 30d: the law's at and work =====
theorem InvX.low {T : TS} {σ σ' : Sg} (hX : InvX T σ) (h4 : tnf T ≤ 4) (hq : ∀ q, q < 43 → σ' q = σ q) : InvX T σ' := by
  obtain ⟨b1, b2, b3, b4, b5, b6, b7, b8, b9, b10⟩ := hX
  have s0 : σ' 0 = σ 0 := hq 0 (by decide)
  refine ⟨b1.keep (fun q x1 x2 => hq q (by omega)), by rw [s0]; exact b2, by rw [s0]; exact b3, by rw [s0]; exact b4, by rw [s0]; exact b5, fun g hg => ?_, fun g x1 x2 => ?_, fun g hg => ?_, fun g m t hg ht => ?_, ?_⟩
  · exact (b6 g hg).keep (by rw [hq _ (by omega)]) (by rw [hq _ (by omega)]) (hq _ (by omega)) (hq _ (by omega)) (hq _ (by omega))
  · rw [hq _ (by omega), hq (15 + 7 * g + 5) (by omega)]; exact b7 g x1 x2
  · exact (b8 g hg).keep (by rw [hq _ (by omega)]) (hq _ (by omega))
  · rw [hq _ (by omega), hq (15 + 7 * g + 3) (by omega)]; exact b9 g m t hg ht
  · rw [s0, hq 13 (by decide)]; exact b10
def RtH (Γ : Gm) (rt : Option FieldType) (post : Option PV → Sg → Prop) : Prop := match Γ with
  | (_, _, _, _, s, _, args, below, meth, _, D, K, ad, A, _, cells, slots, Q) => meth.sig.returnType = rt ∧ meth.locks = false ∧ A = adS ad ∧ cells = 0 ∧ slots = 0 ∧ Q = vx_MQ below (Qp D K ad post) (fun _ _ _ => False) args s 1 6 (adS ad)
/-- a contract of a method that catches -/
def SpH (y : MethodName) (cc : ByteArray) (nL : Nat) (rt : Option FieldType) (hh : List (Nat × Nat × Nat × Nat)) (d : Nat) (as : List PV) (σ : Sg) (post : Option PV → Sg → Prop) : Prop :=
  ∀ (l : Launch) (D : va_G) (K : CK) (ad : Nat → Nat), l.stackTraces = false → vx_Met l y (.codeWith y cc nL rt hh :: TT) ({ frames := d, cells := 1, slots := 6, locals := 38 * d }) (va_Pc (as.map (lvv ad)) (fun U => va_P D vwCl (wld K ad σ) U.heap ∧ Kx D K ad U ∧ Tx (adS ad) U U.heap)) (Qp D K ad post) (fun _ _ _ => False) 1 6 (adS ad)
theorem SpH.intro {y : MethodName} {cc : ByteArray} {nL : Nat} {rt : Option FieldType} {hh : List (Nat × Nat × Nat × Nat)} {d : Nat} {as : List PV} {σ : Sg} {post : Option PV → Sg → Prop} (hy : plainName y.cls = true) (hn : as.length ≤ nL)
    (body : ∀ Γ : Gm, Cx Γ y.cls cc d → RtH Γ rt post → RmX Γ → TbX Γ hh → J Γ 0 (as.map some ++ List.replicate (nL - as.length) none) [] σ) : SpH y cc nL rt hh d as σ post := by
  intro l D K ad hst
  refine vx_ofWH (cc := cc) (maxL := nL) (ret := rt) (hh := hh) hy rfl ?_
  intro p e s m args below meth c s₁ B hml hv
  obtain ⟨rfl, hP, hKx, hTx⟩ := hv
  have hts := atoms_spec (ws := .codeWith y cc nL rt hh :: TT) B.pre
  have htab := vx_table (x := y) B (hts _ List.mem_cons_self)
  have J0 := body (p, l, e, (headSpec (.codeWith y cc nL rt hh :: TT) ({ frames := d, cells := 1, slots := 6, locals := 38 * d })).room, s, m, (as.map (lvv ad)).toArray, below, meth, c, D, K, ad, adS ad, nL, 0, 0, vx_MQ below (Qp D K ad post) (fun _ _ _ => False) (as.map (lvv ad)).toArray s 1 6 (adS ad))
    ⟨B.exec, B.bytes, hml, findClass_of_methodNamed B.named, fun w hw => hts w (List.mem_cons_of_mem _ hw), hKx, fun i hi => ⟨i, hi, rfl⟩, Nat.le_refl _, Nat.le_refl _, Nat.zero_le _, Nat.zero_le _⟩
    ⟨B.returns, B.notSynchronized, rfl, rfl, rfl, rfl⟩ ⟨hst, hTx, Nat.le_refl _, Nat.le_refl _⟩ htab
  have hl := lv_entry (as.map (lvv ad)) (n := nL) (by rw [lg_sl_len]; exact hn)
  rw [lvl_args (k := nL - as.length)] at hl
  rw [lg_entry_eq]
  exact J0 (by simp; omega) s.heap [] _ hP va_S.rf hl
theorem j_iretH {Γ : Gm} {own : String} {cc : ByteArray} {d pc : Nat} {L : List (Option PV)} {σ : Sg} {post : Option PV → Sg → Prop} {rt : FieldType} {v : Int32} (hc : Cx (bmp Γ) own cc d) (hr : RtH Γ (some rt) post) (hd : decode cc pc = .ok (.ireturn, 1)) (hn : narrow rt (.int v) = .int v) (hp : post (some (.inl v)) σ) : J (bmp Γ) pc L [.inl v] σ := by
  obtain ⟨p, l, e, R, s, m, args, below, meth, c, D, K, ad, A, nL, cells, slots, Q⟩ := Γ
  obtain ⟨hx, hb, hml, hown, hts, hK, hA, hfr, hlo, hce, hsl⟩ := hc
  intro hL H locs ls hP hS hl
  obtain ⟨r1, r2, rfl, rfl, rfl, rfl⟩ := hr
  exact vx_ret (W.zret hx hb r1 hn (fun t ht hW => ⟨⟨some (.inl v), σ, rfl, hp, by rw [ht]; exact hP⟩, hS.F ht⟩) hS.2.2 hd r2)
theorem sp_L_at {T : TS} {σ : Sg} (hX : InvX T σ) (hW : WF T) (x y w : Int32) : SpH yL_at cL_at 6 (some .int) [(0, 12, 15, 13)] 7 [.inr 0, .inl x, .inl y, .inl w, .inr 67] σ (fun r σ' => r = some (.inl (bI (!okAt T x y w))) ∧ InvX T σ' ∧ (okAt T x y w = true → σ' 67 0 = aAt T x.toNatClampNeg y.toNatClampNeg w.toNatClampNeg) ∧ ∀ q, 50 ≤ q → q ≠ 67 → σ' q = σ q) := by
  have h4 := hW.2.2.2.1
  refine SpH.intro rfl (Nat.le_of_ble_eq_true rfl) (fun Γ c r rm tb => ?_)
  show J Γ 0 [some (.inr 0), some (.inl x), some (.inl y), some (.inl w), some (.inr 67), none] [] σ
  refine j_aload c dL_at_0 rfl ?_
  refine j_iconst c (nI 0) dL_at_2 (by decide) ?_
  refine j_aload_n c dL_at_3 rfl ?_
  refine j_iload_n c dL_at_4 rfl ?_
  refine j_iload_n c dL_at_5 rfl ?_
  refine j_iload_n c dL_at_6 rfl ?_
  refine j_callX c rm tb kw_L_7 (sp_atX hX hW x y w) dL_at_7 dL_at_15 (by decide) (Nat.le_of_ble_eq_true rfl) rfl rfl (by decide) (Nat.le_of_ble_eq_true rfl) (Nat.le_of_ble_eq_true rfl) rfl rfl ?_ ?_
  · rintro _ σ1 ⟨hok, rfl, hX1, hfr⟩
    have c := c.bmp rm
    refine j_i2l_last c dL_at_10 dL_at_11 ?_
    refine j_goto c 19 dL_at_12 (by decide) ?_
    refine j_iconst c (nI 0) dL_at_19 (by decide) ?_
    exact j_iretH c r dL_at_20 rfl ⟨by rw [hok]; rfl, hX1.low h4 (fun q hq => s2_np (by omega)), fun _ => s2_at _ _ _ _, fun q h1 h2 => by rw [s2_np h2]; exact hfr q h1⟩
  · rintro σ1 ⟨hok, hX1, hfr⟩
    have c := c.bmp rm
    refine j_iconst c (nI 1) dL_at_17 (by decide) ?_
    exact j_iretH c r dL_at_18 rfl ⟨by rw [hok]; rfl, hX1, fun h => (by rw [hok] at h; cases h), fun q h1 _ => hfr q h1⟩
theorem sp_L_work {T : TS} {σ : Sg} (hX : InvX T σ) (hW : WF T) (hKd : KdOK T) (x y : Int32) : SpH yL_work cL_work 5 (some .int) [(0, 10, 13, 13)] 7 [.inr 0, .inl x, .inl y, .inr 67] σ (fun r σ' => r = some (.inl (bI (!okWork T x y))) ∧ InvX T σ' ∧ (okWork T x y = true → σ' 67 0 = aWork T x.toNatClampNeg y.toNatClampNeg) ∧ ∀ q, 50 ≤ q → q ≠ 67 → σ' q = σ q) := by
  have h4 := hW.2.2.2.1
  refine SpH.intro rfl (Nat.le_of_ble_eq_true rfl) (fun Γ c r rm tb => ?_)
  show J Γ 0 [some (.inr 0), some (.inl x), some (.inl y), some (.inr 67), none] [] σ
  refine j_aload_n c dL_work_0 rfl ?_
  refine j_iconst c (nI 0) dL_work_1 (by decide) ?_
  refine j_aload_n c dL_work_2 rfl ?_
  refine j_iload_n c dL_work_3 rfl ?_
  refine j_iload_n c dL_work_4 rfl ?_
  refine j_callX c rm tb kw_L_15 (sp_workX hX hW hKd x y) dL_work_5 dL_work_13 (by decide) (Nat.le_of_ble_eq_true rfl) rfl rfl (by decide) (Nat.le_of_ble_eq_true rfl) (Nat.le_of_ble_eq_true rfl) rfl rfl ?_ ?_
  · rintro _ σ1 ⟨hok, rfl, hX1, hfr⟩
    have c := c.bmp rm
    refine j_i2l_last c dL_work_8 dL_work_9 ?_
    refine j_goto c 17 dL_work_10 (by decide) ?_
    refine j_iconst c (nI 0) dL_work_17 (by decide) ?_
    exact j_iretH c r dL_work_18 rfl ⟨by rw [hok]; rfl, hX1.low h4 (fun q hq => s2_np (by omega)), fun _ => s2_at _ _ _ _, fun q h1 h2 => by rw [s2_np h2]; exact hfr q h1⟩
  · rintro σ1 ⟨hok, hX1, hfr⟩
    have c := c.bmp rm
    refine j_iconst c (nI 1) dL_work_15 (by decide) ?_
    exact j_iretH c r dL_work_16 rfl ⟨by rw [hok]; rfl, hX1, fun h => (by rw [hok] at h; cases h), fun q h1 _ => hfr q h1⟩
/-- a call of a method that catches -/
def Ch (index : Nat) (y : MethodName) (bytes : ByteArray) (maxL : Nat) (ret : Option FieldType) (hh : List (Nat × Nat × Nat × Nat)) (n : Nat) : Prop :=
  Cond.methodLink RL index y ∈ TT ∧ Cond.static y ∈ TT ∧ Cond.initialized y.cls ∈ TT ∧ Cond.codeWith y bytes maxL ret hh ∈ TT ∧ (y.cls ≠ "java/lang/invoke/MethodHandle" ∧ y.cls ≠ "java/lang/invoke/VarHandle" ∧ (parseMethodDescriptor y.desc).map (fun d => d.parameters.length) = some n) ∧ maxL ≤ 19
theorem ch_67 : Ch 67 yL_at cL_at 6 (some .int) [(0, 12, 15, 13)] 5 := ⟨TT_in (by decide +kernel) (by decide +kernel), TT_in (by decide +kernel) (by decide +kernel), TT_in (by decide +kernel) (by decide +kernel), TT_in (by decide +kernel) (by decide +kernel), by decide +kernel, by decide⟩
theorem ch_96 : Ch 96 yL_work cL_work 5 (some .int) [(0, 10, 13, 13)] 4 := ⟨TT_in (by decide +kernel) (by decide +kernel), TT_in (by decide +kernel) (by decide +kernel), TT_in (by decide +kernel) (by decide +kernel), TT_in (by decide +kernel) (by decide +kernel), by decide +kernel, by decide⟩
theorem j_callSH {Γ : Gm} {cc : ByteArray} {d pc : Nat} {L : List (Option PV)} {σ : Sg} (hc : Cx Γ RL cc d) (hr : RmX Γ) {y : MethodName} {bytes : ByteArray} {maxL n index d' : Nat} {ret : Option FieldType} {hh : List (Nat × Nat × Nat × Nat)} {as rest st : List PV} {post : Option PV → Sg → Prop} (hw : Ch index y bytes maxL ret hh n) (hM : SpH y bytes maxL ret hh d' as σ post) (hd : decode cc pc = .ok (.invokestatic index, 3)) (hst : st = as.reverse ++ rest) (hn : as.length = n) (hdd : d' + 1 ≤ d) (hrl : rest.length ≤ 8)
    (n1 : ∀ r σ', post r σ' → J (bmp Γ) (pc + 3) L (r.toList ++ rest) σ') : J Γ pc L st σ := by
  obtain ⟨w0, w1, w4, w3, w5, w6⟩ := hw
  obtain ⟨p, l, e, R, s, m, args, below, meth, c, D, K, ad, A, nL, cells, slots, Q⟩ := Γ
  obtain ⟨hx, hb, hml, hown, hts, hK, hA, hfr, hlo, hce, hsl⟩ := hc
  obtain ⟨q1, q2, q4, q5⟩ := hr
  have hAS : ∀ q, adS ad q → A q := fun q hq => by obtain ⟨i, hi, rfl⟩ := hq; exact hA i hi
  intro hL H locs ls hP hS hl
  have hgood : GoodIn TT (va_wsS RL index y (Cond.codeWith y bytes maxL ret hh :: TT)) := TT_good (fun w hw => by
    unfold va_wsS at hw
    simp only [List.mem_append, List.mem_cons, List.not_mem_nil, or_false] at hw
    rcases hw with (rfl | rfl | rfl) | rfl | h
    · first | exact w0 | exact w1 | exact w4
    · first | exact w0 | exact w1 | exact w4
    · first | exact w0 | exact w1 | exact w4
    · exact w3
    · exact h) (fun w h => h)
  have hroom : d' + 1 ≤ R.frames ∧ 8 + (maxL + 11) + 38 * d' ≤ R.locals := ⟨by omega, by omega⟩
  subst hst
  have hrun := vx_runSX (hh := hh) (As := as.map (lvv ad)) (rest := rest.map (lvv ad)) (g := F0 m pc ls ((as.reverse ++ rest).map (lvv ad))) (H := H) (locs := locs) (cells := cells) (slots := slots) (below := below) (meth := meth) (e := e) ⟨hx, hb, hml, hown, hts⟩ (hM l D K ad q1) (vx_cwSW n hts hgood rfl rfl rfl w5 hroom)
    ⟨KTx.blind, fun U hU hW => ⟨rfl, by rw [hU]; exact hP, hK.warm hW, by rw [hU]; exact ((q2.kept hS.2.1).narrow hAS).warm hW⟩⟩ rfl (by rw [List.length_map]; exact hn) hl.1 (by simp) (lv_room (by rw [cat_sum]; exact hrl)) hd ⟨q4, q5⟩
  refine jw_callX (px := fun _ => False) (a := (as.map (lvv ad)).toArray) (fun T hT X => ?_) hS hA (fun r σ' hp H1 locs1 hP1 hS1 => n1 r σ' hp hL H1 locs1 ls hP1 hS1 hl) (fun σ' hp => hp.elim)
  rcases hrun T hT X with h | ⟨q9, st₀, t, T', Lx, E, ce, _, _, _, _, _, h, _⟩
  · exact Or.inl h
  · exact h.elim
