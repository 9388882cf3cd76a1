-- ===== 60e: the classes at the law's start; the law's first rows =====
theorem lw_of_TT {w : Cond} (h : w ∈ TT) : w ∈ lw_tbl := (List.mem_filter.mp h).1
theorem arr_lw {ty : FieldType} {A : Array Value} {s : State} (h : (Cond.arrayClass ty).before A s = true) : ∃ cA : ClassId, ArrOfT s cA ty ∧ s.vm.findClass ("[" ++ ty.toString) = some cA := by
  obtain ⟨cA, k, comp, h1, h2, h3⟩ := Cond.arrayClass_spec h
  exact ⟨cA, fun n z => ⟨fun k h => (by cases h), k, h2, comp, h3⟩, h1⟩
theorem K_lw {A : Array Value} {s : State} (hts : ∀ w ∈ lw_tbl, w.before A s = true) : ∃ (D : va_G) (K : CK), va_K D vwCl (tysK K) s ∧ Nm K s ∧ va_AO RX1 s := by
  obtain ⟨c0, i0, k0⟩ := u_known (C := RX0) (T := TX0) (N := 10) (n := 10) hts (fun w hw => lw_of_TT (inT0 w hw)) (hts (.instantiable RX0 10) (by decide +kernel))
  obtain ⟨c1, i1, k1⟩ := u_known (C := RX1) (T := TX1) (N := 9) (n := 9) hts (fun w hw => lw_of_TT (inT1 w hw)) (hts (.instantiable RX1 9) (by decide +kernel))
  obtain ⟨c2, i2, k2⟩ := u_known (C := RX2) (T := TX2) (N := 12) (n := 12) hts (fun w hw => lw_of_TT (inT2 w hw)) (hts (.instantiable RX2 12) (by decide +kernel))
  obtain ⟨c3, i3, k3⟩ := u_known (C := RX3) (T := TX3) (N := 26) (n := 26) hts (fun w hw => lw_of_TT (inT3 w hw)) (hts (.instantiable RX3 26) (by decide +kernel))
  obtain ⟨kI, aI1, nI1⟩ := arr_lw (ty := .int) (hts (.arrayClass .int) (by decide +kernel))
  obtain ⟨kZ, aZ1, nZ1⟩ := arr_lw (ty := .boolean) (hts (.arrayClass .boolean) (by decide +kernel))
  obtain ⟨kJ, aJ1, nJ1⟩ := arr_lw (ty := .long) (hts (.arrayClass .long) (by decide +kernel))
  have hO := hts (.arrayOver (.object RX1)) (by decide +kernel)
  obtain ⟨comp, kO, kk, o1, o2, o3, o4, o5⟩ := Cond.arrayOver_spec hO
  refine ⟨(fun k => if k = 0 then c0 else if k = 1 then c1 else if k = 2 then c2 else c3, fun k => if k = 0 then i0 else if k = 1 then i1 else if k = 2 then i2 else i3), (kI, kZ, kO, kJ), ⟨?_, ?_⟩, ⟨nI1, nZ1, nJ1⟩, va_AO.of hO⟩
  · intro k q hq
    match k, hq with
    | 0, hq => cases hq; exact k0
    | 1, hq => cases hq; exact k1
    | 2, hq => cases hq; exact k2
    | 3, hq => cases hq; exact k3
    | k + 4, hq => simp [vwCl] at hq
  · intro k q hq
    match k, hq with
    | 0, hq => cases hq; exact ⟨aI1, nI1⟩
    | 1, hq => cases hq; exact ⟨aZ1, nZ1⟩
    | 2, hq => cases hq; exact ⟨fun n z => ⟨fun k h => (by cases h), kk, o3, comp, o4⟩, kk, comp, o3, o4, o1, o5⟩
    | 3, hq => cases hq; exact ⟨aJ1, nJ1⟩
    | k + 4, hq => simp [tysK] at hq
theorem nw_L8 : Cond.classLink RL 8 RX2 ∈ TT ∧ Cond.instantiable RX2 12 ∈ TT ∧ Cond.initialized RX2 ∈ TT := ⟨TT_in (by decide +kernel) (by decide +kernel), TT_in (by decide +kernel) (by decide +kernel), TT_in (by decide +kernel) (by decide +kernel)⟩
theorem nw_L20 : Cond.classLink RL 20 RX3 ∈ TT ∧ Cond.instantiable RX3 26 ∈ TT ∧ Cond.initialized RX3 ∈ TT := ⟨TT_in (by decide +kernel) (by decide +kernel), TT_in (by decide +kernel) (by decide +kernel), TT_in (by decide +kernel) (by decide +kernel)⟩
theorem li_L19 : Cond.methodLink RL 19 yX2_init ∈ TT ∧ Cond.instanceMethod yX2_init ∈ TT ∧ Cond.initialized yX2_init.cls ∈ TT ∧ Cond.code yX2_init cX2_init 2 none ∈ TT ∧ (yX2_init.cls ≠ "java/lang/invoke/MethodHandle" ∧ yX2_init.cls ≠ "java/lang/invoke/VarHandle" ∧ (parseMethodDescriptor yX2_init.desc).map (fun d => d.parameters.length) = some 0) ∧ yX2_init.name = "<init>" ∧ 2 ≤ 19 := ⟨TT_in (by decide +kernel) (by decide +kernel), TT_in (by decide +kernel) (by decide +kernel), TT_in (by decide +kernel) (by decide +kernel), TT_in (by decide +kernel) (by decide +kernel), by decide +kernel, rfl, by decide⟩
theorem li_L22 : Cond.methodLink RL 22 yX3_init ∈ TT ∧ Cond.instanceMethod yX3_init ∈ TT ∧ Cond.initialized yX3_init.cls ∈ TT ∧ Cond.code yX3_init cX3_init 1 none ∈ TT ∧ (yX3_init.cls ≠ "java/lang/invoke/MethodHandle" ∧ yX3_init.cls ≠ "java/lang/invoke/VarHandle" ∧ (parseMethodDescriptor yX3_init.desc).map (fun d => d.parameters.length) = some 0) ∧ yX3_init.name = "<init>" ∧ 1 ≤ 19 := ⟨TT_in (by decide +kernel) (by decide +kernel), TT_in (by decide +kernel) (by decide +kernel), TT_in (by decide +kernel) (by decide +kernel), TT_in (by decide +kernel) (by decide +kernel), by decide +kernel, rfl, by decide⟩
/-- the law's rows 0 .. 19: an object of the class, one of the reference, a row of one long -/
theorem law_new {Γ : Gm} (c : Cx Γ RL cL_law 10) (f : FrL Γ) (hA9 : match Γ with | (_, _, _, _, s, _, _, _, _, _, _, _, _, A, _, _, _, _) => ∀ q, s.heap.size ≤ q → A q) (hao : match Γ with | (_, _, _, _, s, _, _, _, _, _, _, _, _, _, _, _, _, _) => va_AO RX1 s) (hnL : ∀ i : Nat, i < 4 → match Γ with | (_, _, _, _, _, _, _, _, _, _, _, _, _, _, nL, _, _, _) => i < nL) (hR : ∀ k n, k ≤ 100 → n ≤ 20000 → Rm Γ k n) {b : Nat}
    (n1 : ∀ (x0 y0 z0 : Nat) (ws2 ws3 : va_W), poX2 x0 Γ.2.2.2.2.2.2.2.2.2.2.2.1 ws2 → poX3 y0 Γ.2.2.2.2.2.2.2.2.2.2.2.1 ws3 → JW Γ 20 [(3, .ref z0), (2, .ref y0), (1, .ref x0), (0, .ref b)] [] ((ws2 ++ ws3) ++ [(z0, .inl (Γ.2.2.2.2.2.2.2.2.2.2.2.1.2.2.2, 1, .inr (.inl (fun _ => 0))))]) 68 14415) : JW Γ 0 [(0, .ref b)] [] [] 0 0 := by
  refine w_new (ty := tyX2) (fs := [.null, .null, .null, .int 0, .int 0, .int 0, .int 0, .null, .int 0, .null, .int 0, .null]) c hA9 (hR _ _ (by decide) (by decide)) (ci := 2) rfl inT2 tyX2_ok (by decide) nw_L8 dL_law_0 (fun x0 => ?_)
  refine w_dup c dL_law_3 ?_
  refine w_initL2 c f hao in_X2 rfl li_L19 dL_law_4 (by decide) (hR _ _ (by decide) (by decide)) (Nat.le_of_ble_eq_true rfl) (fun ws2 h2 => ?_)
  refine w_astore (lv' := [(1, .ref x0), (0, .ref b)]) c dL_law_7 (hnL 1 (by decide)) rfl ?_
  show JW Γ 8 [(1, .ref x0), (0, .ref b)] [] ws2 50 9475
  refine w_new (ty := tyX3) (fs := [.int 0, .int 0, .null, .null, .null, .null, .int 0, .null, .null, .null, .null, .int 0, .null, .null, .int 0, .int 0, .null, .null, .null, .int 0, .int 0, .null, .int 0, .int 0, .null, .null]) c hA9 (hR _ _ (by decide) (by decide)) (ci := 3) rfl inT3 tyX3_ok (by decide) nw_L20 dL_law_8 (fun y0 => ?_)
  refine w_dup c dL_law_11 ?_
  refine w_initL c f in_X3 rfl li_L22 dL_law_12 (by decide) (hR _ _ (by decide) (by decide)) (Nat.le_of_ble_eq_true rfl) (fun ws3 h3 => ?_)
  refine w_astore (lv' := [(2, .ref y0), (1, .ref x0), (0, .ref b)]) c dL_law_15 (hnL 2 (by decide)) rfl ?_
  show JW Γ 16 [(2, .ref y0), (1, .ref x0), (0, .ref b)] [] (ws2 ++ ws3) 67 14414
  refine w_iconst c (nI 1) dL_law_16 (by decide) ?_
  refine w_newL c f (hR _ _ (by decide) (by decide)) (by decide) dL_law_17 (fun z0 => ?_)
  refine w_astore (lv' := [(3, .ref z0), (2, .ref y0), (1, .ref x0), (0, .ref b)]) c dL_law_19 (hnL 3 (by decide)) rfl ?_
  exact n1 x0 y0 z0 ws2 ws3 h2 h3
