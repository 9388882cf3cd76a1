-- ===== 60d: what the law's start gives =====
theorem noTr {l : Launch} (h : l.flags = flags0) : l.stackTraces = false := by
  unfold Launch.stackTraces
  rw [h]
  decide +kernel
theorem TT_lw {args : Array Value} {s : State} (hts : ∀ w ∈ lw_tbl, w.before args s = true) : ∀ w ∈ TT, w.before args s = true := fun w hw => hts w (List.mem_filter.mp hw).1
theorem xBad_in : ∀ w ∈ xBad, w ∈ lw_tbl := by decide +kernel
theorem xBad_lw {args : Array Value} {s : State} (hts : ∀ w ∈ lw_tbl, w.before args s = true) : ∀ w ∈ xBad, va_Nw w s := fun w hw => va_Nw.of (xBad_ot w hw) (hts w (xBad_in w hw))
theorem nestF_in : ∀ t ∈ nestF, Cond.fieldLinkNest t.1 t.2.1 t.2.2.1 t.2.2.2.1 t.2.2.2.2.1 t.2.2.2.2.2 ∈ lw_tbl := by decide +kernel
theorem nestM_in : ∀ t ∈ nestM, Cond.methodLinkNest t.1 t.2.1 t.2.2.1 t.2.2.2 ∈ lw_tbl := by decide +kernel
theorem Nst_lw {args : Array Value} {s : State} (hts : ∀ w ∈ lw_tbl, w.before args s = true) : Nst s := ⟨fun t ht => va_Nw.of rfl (hts _ (nestF_in t ht)), fun t ht => va_Nw.of rfl (hts _ (nestM_in t ht))⟩
theorem Zq_lw {b : Nat} {s : State} (hts : ∀ w ∈ lw_tbl, w.before #[Value.ref b] s = true) (hgv : (Jvm.Cond.and given_1 narrow_1).before #[Value.ref b] s = true) : vx_Zq Bundle.tN "UNASSIGNED_STACK" Bundle.steD (fun q => s.heap.size ≤ q) s s.heap ∧ vx_Zq Bundle.tN "SUPPRESSED_SENTINEL" Bundle.listD (fun q => s.heap.size ≤ q) s s.heap :=
  ⟨vx_Zqof (hts (.laysStatic Bundle.tN "UNASSIGNED_STACK" Bundle.steD) (by decide +kernel)) (hts (.initialized Bundle.tN) (by decide +kernel)) (flat_of_before _ hgv (.isRef (.static Bundle.tN "UNASSIGNED_STACK" Bundle.steD)) (by decide +kernel)) (fun a ha h => absurd ha (Nat.not_lt.mpr h)), vx_Zqof (hts (.laysStatic Bundle.tN "SUPPRESSED_SENTINEL" Bundle.listD) (by decide +kernel)) (hts (.initialized Bundle.tN) (by decide +kernel)) (flat_of_before _ hgv (.isRef (.static Bundle.tN "SUPPRESSED_SENTINEL" Bundle.listD)) (by decide +kernel)) (fun a ha h => absurd ha (Nat.not_lt.mpr h))⟩
theorem str_lw {b k : Nat} {tx : String} {s : State} (h1 : (Cond.stringRef RX2 k tx).before #[Value.ref b] s = true) (h2 : (Cond.exactly (.string RX2 k) "java/lang/String").before #[Value.ref b] s = true) : ∃ sa, vk_R RX2 k tx sa s := by
  obtain ⟨a, _, _, _, hb, -⟩ := Cond.exactly_spec h2
  exact ⟨a, h1, hb⟩
theorem Tx_lw {b : Nat} {s : State} (hts : ∀ w ∈ lw_tbl, w.before #[Value.ref b] s = true) (hgv : (Jvm.Cond.and given_1 narrow_1).before #[Value.ref b] s = true) : Tx (fun q => s.heap.size ≤ q) s s.heap := by
  refine ⟨(Zq_lw hts hgv).1, (Zq_lw hts hgv).2, fun t ht => ?_, xBad_lw hts⟩
  simp only [xStr, List.mem_cons, List.not_mem_nil, or_false] at ht
  rcases ht with rfl | rfl | rfl | rfl
  · exact str_lw (hts _ (by decide +kernel)) (flat_of_before _ hgv _ (by decide +kernel))
  · exact str_lw (hts _ (by decide +kernel)) (flat_of_before _ hgv _ (by decide +kernel))
  · exact str_lw (hts _ (by decide +kernel)) (flat_of_before _ hgv _ (by decide +kernel))
  · exact str_lw (hts _ (by decide +kernel)) (flat_of_before _ hgv _ (by decide +kernel))
