-- ===== 30a: methods that throw =====
def xAt : List Cond := (xOwn RX2 171).filter vx_no
def xBad : List Cond := [.castable NE NE, .declares (Bundle.initS "java/lang/RuntimeException"), .declares (Bundle.initS "java/lang/Exception"), .declares (Bundle.initS Bundle.tN)]
theorem xAt_bad : ∀ w ∈ xAt, goodWord w = true ∨ w ∈ xBad := by decide +kernel
theorem xAt_ot : ∀ w ∈ xAt, vx_ot w = true := by decide +kernel
theorem xAt_in : ∀ w ∈ xAt.filter goodWord, w ∈ lw_tbl := by decide +kernel
theorem xBad_ot : ∀ w ∈ xBad, w.onTables = true := by decide +kernel
theorem xBad_warm {s U : State} (hW : s.WarmedH U.vm) (h : ∀ w ∈ xBad, va_Nw w s) : ∀ w ∈ xBad, va_Nw w U := by
  intro w hw
  have h0 := h w hw
  simp only [xBad, List.mem_cons, List.not_mem_nil, or_false] at hw
  rcases hw with rfl | rfl | rfl | rfl
  · exact va_Nw.warmC hW h0
  · exact va_Nw.warmD hW h0
  · exact va_Nw.warmD hW h0
  · exact va_Nw.warmD hW h0
theorem xCl : Cond.classLink RX2 167 NE ∈ TT := TT_in (by decide +kernel) (by decide +kernel)
theorem xIn : Cond.initialized NE ∈ TT := TT_in (by decide +kernel) (by decide +kernel)
def xStr : List (Nat × String) := [(169, "no such method"), (181, "nothing else is told of a method"), (196, "no such call"), (198, "the chain has no method")]
/-- what a throw stands on, of the heap and the constants -/
def Tx (A : Nat → Prop) (U : State) (H : Heap) : Prop := vx_Zq Bundle.tN "UNASSIGNED_STACK" Bundle.steD A U H ∧ vx_Zq Bundle.tN "SUPPRESSED_SENTINEL" Bundle.listD A U H ∧ (∀ t ∈ xStr, ∃ sa, vk_R RX2 t.1 t.2 sa U) ∧ ∀ w ∈ xBad, va_Nw w U
theorem Tx.warm {A : Nat → Prop} {s U : State} {H : Heap} (hW : s.WarmedH U.vm) (h : Tx A s H) : Tx A U H := ⟨h.1.moved hW.alike, h.2.1.moved hW.alike, fun t ht => by obtain ⟨sa, hs⟩ := h.2.2.1 t ht; exact ⟨sa, vk_R.warm hW hs⟩, xBad_warm hW h.2.2.2⟩
theorem Tx.same {A : Nat → Prop} {s U : State} {H : Heap} (hv : U.vm = s.vm) (h : Tx A s H) : Tx A U H := ⟨h.1.moved (by rw [hv]; exact Vm.Alike.refl _), h.2.1.moved (by rw [hv]; exact Vm.Alike.refl _), fun t ht => by obtain ⟨sa, hs⟩ := h.2.2.1 t ht; exact ⟨sa, vk_R.same hv hs⟩, fun w hw => va_Nw.same (xBad_ot w hw) hv.symm (h.2.2.2 w hw)⟩
theorem Tx.kept {A : Nat → Prop} {U : State} {H H1 : Heap} (h : Tx A U H) (hq : ∀ a : Nat, a < H.size → ¬ A a → H1[a]? = H[a]?) : Tx A U H1 := ⟨h.1.kept hq, h.2.1.kept hq, h.2.2⟩
def XQ (D : va_G) (K : CK) (ad : Nat → Nat) (px : Sg → Prop) : String → State → State → Prop := fun E st t => E = NE ∧ (∃ σ' : Sg, px σ' ∧ va_P D vwCl (wld K ad σ') t.heap) ∧ va_F (adS ad) st t
def RtX (Γ : Gm) (rt : Option FieldType) (post : Option PV → Sg → Prop) (px : Sg → Prop) : Prop := match Γ with
  | (_, l, _, R, s, _, args, below, meth, c, D, K, ad, A, _, cells, slots, Q) => meth.sig.returnType = rt ∧ meth.locks = false ∧ A = adS ad ∧ cells = 0 ∧ slots = 0 ∧ Q = vx_MQ below (Qp D K ad post) (XQ D K ad px) args s 1 6 (adS ad) ∧ (∀ x ∈ c.exceptionTable.toList, False) ∧ l.stackTraces = false ∧ Tx (adS ad) s s.heap ∧ 1 ≤ R.cells ∧ 6 ≤ R.slots ∧ 6 ≤ R.frames ∧ 90 ≤ R.locals
/-- a contract of a method that comes back, or throws -/
def SpX (y : MethodName) (cc : ByteArray) (nL : Nat) (rt : Option FieldType) (d : Nat) (as : List PV) (σ : Sg) (post : Option PV → Sg → Prop) (px : Sg → Prop) : Prop :=
  ∀ (l : Launch) (D : va_G) (K : CK) (ad : Nat → Nat), l.stackTraces = false → vx_Met l y (.code y cc nL rt :: TT) ({ frames := d, cells := 1, slots := 6, locals := 38 * d }) (va_Pc (as.map (lvv ad)) (fun U => va_P D vwCl (wld K ad σ) U.heap ∧ Kx D K ad U ∧ Tx (adS ad) U U.heap)) (Qp D K ad post) (XQ D K ad px) 1 6 (adS ad)
theorem SpX.intro {y : MethodName} {cc : ByteArray} {nL : Nat} {rt : Option FieldType} {d : Nat} {as : List PV} {σ : Sg} {post : Option PV → Sg → Prop} {px : Sg → Prop} (hy : plainName y.cls = true) (hn : as.length ≤ nL) (hd : 6 ≤ d)
    (body : ∀ Γ : Gm, Cx Γ y.cls cc d → RtX Γ rt post px → J Γ 0 (as.map some ++ List.replicate (nL - as.length) none) [] σ) : SpX y cc nL rt d as σ post px := by
  intro l D K ad hst
  refine vx_ofW (cc := cc) (maxL := nL) (ret := rt) hy rfl ?_
  intro p e s m args below meth c s₁ B hml htab hv
  obtain ⟨rfl, hP, hKx, hTx⟩ := hv
  have hts := atoms_spec (ws := .code y cc nL rt :: TT) B.pre
  have J0 := body (p, l, e, (headSpec (.code y cc nL rt :: TT) ({ frames := d, cells := 1, slots := 6, locals := 38 * d })).room, s, m, (as.map (lvv ad)).toArray, below, meth, c, D, K, ad, adS ad, nL, 0, 0, vx_MQ below (Qp D K ad post) (XQ D K ad px) (as.map (lvv ad)).toArray s 1 6 (adS ad))
    ⟨B.exec, B.bytes, hml, findClass_of_methodNamed B.named, fun w hw => hts w (List.mem_cons_of_mem _ hw), hKx, fun i hi => ⟨i, hi, rfl⟩, Nat.le_refl _, Nat.le_refl _, Nat.zero_le _, Nat.zero_le _⟩
    ⟨B.returns, B.notSynchronized, rfl, rfl, rfl, rfl, htab, hst, hTx, Nat.le_refl _, Nat.le_refl _, hd, by show 90 ≤ 38 * d; omega⟩
  have hl := lv_entry (as.map (lvv ad)) (n := nL) (by rw [lg_sl_len]; exact hn)
  rw [lvl_args (k := nL - as.length)] at hl
  rw [lg_entry_eq]
  exact J0 (by simp; omega) s.heap [] _ hP va_S.rf hl
section XTH
variable {p : Program} {l : Launch} {e : Env} {R : Room} {s : State} {m : MethodId} {args : Array Value} {below : List Frame} {meth : Method} {c : Code} {H : Heap} {locs : List Loc} {cells slots mc ms : Nat} {free : Addr → Prop} {ls : Array Slot} {rest : List Value} {Qc : Array Value → State → Outcome → State → Prop} {XC : String → State → State → Prop}
set_option maxHeartbeats 1000000 in
/-- 'throw new NoSuchElementException("text")' (follows vx_throwS) -/
theorem xx_throw {cc : ByteArray} {pc : Nat} (hexec : p.tables.exec = Jvm.exec) (hb : c.code = cc) (hl : l.stackTraces = false) {own text : String} {ik is ic sa : Nat} {A : Nat → Prop}
    (hown : s.vm.findClass own = some m.cls) (hk : (Cond.classLink own ik NE).before args s = true) (hini : (Cond.initialized NE).before args s = true) (hstr : vk_R own is text sa s) (hat : ∀ w ∈ (xOwn own ic).filter vx_no, w.before args s = true)
    (hgood : ∀ w ∈ Cond.classLink own ik NE :: Cond.initialized NE :: (xOwn own ic).filter vx_no, vx_ot w = true)
    (hU : vx_Zq Bundle.tN "UNASSIGNED_STACK" Bundle.steD A s s.heap) (hN : vx_Zq Bundle.tN "SUPPRESSED_SENTINEL" Bundle.listD A s s.heap) (hS : va_S A s.heap H locs) (hsize : ls.size = c.maxLocals)
    (d0 : decode cc pc = .ok (.new ik, 3)) (d3 : decode cc (pc + 3) = .ok (.dup, 1)) (d4 : decode cc (pc + 4) = .ok (.ldc is, 2)) (d6 : decode cc (pc + 6) = .ok (.invokespecial ic, 3)) (d9 : decode cc (pc + 9) = .ok (.athrow, 1))
    (hout : ∀ x ∈ c.exceptionTable.toList, covers x (pc + 9) = false)
    (hRframes : 2 + 3 < R.frames) (hRlocals : (rest.map fun v => v.category).sum + (13 * (2 + 1) + 43) ≤ R.locals) (hRcells : cells + 1 ≤ R.cells) (hRslots : slots + 6 ≤ R.slots) (hlocks : meth.locks = false)
    (hx : ∀ t : State, s.vm.Alike t.vm → H.size ≤ t.heap.size → (∀ q : Nat, q < H.size → t.heap[q]? = H[q]?) → XC NE s t)
    (hf : ∀ z ∈ locs, free z.base) (hc : cells + 1 ≤ mc) (hs : slots + 6 ≤ ms) :
    W p l e R s m args below meth c H locs cells slots (vx_MQ below Qc XC args s mc ms free) (F0 m pc ls rest) := by
  intro T hT X
  have htr : e.platform.stackTraces = false := (show e.platform.stackTraces = l.stackTraces by rw [X.admits.platform]).trans hl
  have Y := vx_rebase X (R' := { frames := R.frames, locals := R.locals, cells := 1, slots := 6 }) (Nat.le_refl _) (Nat.le_refl _) hRcells hRslots
  obtain ⟨s', hA⟩ : ∃ z, z = (T.setVm s.vm).setFrames (.invoking m args :: below) := ⟨_, rfl⟩
  rw [← hA] at Y
  have hvm : s'.vm = s.vm := by rw [hA]; rfl
  have hhp : s'.heap = H := by rw [hA]; exact hT
  have hW0 : s.WarmedH s'.vm := by rw [hvm]; exact State.WarmedH.refl s
  have hat' : ∀ w ∈ (xOwn own ic).filter vx_no, w.before args s' = true := fun w hw => vx_ot_at hW0 hvm.symm (hgood w (List.mem_cons_of_mem _ (List.mem_cons_of_mem _ hw))) (hat w hw)
  have hk' : (Cond.classLink own ik NE).before args s' = true := vx_ot_at hW0 hvm.symm (hgood _ List.mem_cons_self) hk
  have hini' : (Cond.initialized NE).before args s' = true := vx_ot_at hW0 hvm.symm (hgood _ (List.mem_cons_of_mem _ List.mem_cons_self)) hini
  have hU' : vx_Zq Bundle.tN "UNASSIGNED_STACK" Bundle.steD A s' s'.heap := by rw [hhp]; exact vx_Zq.moved hW0.alike (hU.kept hS.2.1)
  have hN' : vx_Zq Bundle.tN "SUPPRESSED_SENTINEL" Bundle.listD A s' s'.heap := by rw [hhp]; exact vx_Zq.moved hW0.alike (hN.kept hS.2.1)
  have h : ∀ w ∈ xOwn own ic, w.before args s' = true := vx_own hat' (vx_isRefq hU'.1) (vx_isRefq hN'.1) hU'.2.word hN'.2.word
  have hown' : s'.vm.findClass own = some m.cls := by rw [hvm]; exact hown
  have hins : (Cond.instantiable NE 6).before args s' = true := h _ (by simp [xOwn, xTail])
  obtain ⟨vm₁, cX, kX, hfX, hkX, -, -, X₁, st1⟩ := Y.newCold hexec (own := own) (C := NE) (index := ik) (n := 6) hown' hk' hins hini'
    (g := F0 m pc ls rest) rfl (by rw [hb]; exact d0) (Nat.le_refl _) (Nat.le_refl _)
  generalize hT1 : (T.setVm vm₁).pushCell { cls := cX, slots := kX.instanceTypes.map defaultValue, vm := .none } = T1 at X₁ st1
  have hcat : (Value.ref T.heap.size).category = 1 := rfl
  have hcellA : T1.heap[T.heap.size]? = some (freshCell cX kX) := by rw [← hT1]; exact State.heap_pushCell_size _ _
  have d3' : decode c.code (pc + 3) = .ok (.dup, 1) := by rw [hb]; exact d3
  have d4' : decode c.code (pc + 4) = .ok (.ldc is, 2) := by rw [hb]; exact d4
  have hstr' : vk_R own is text sa s' := vk_R.warm hW0 hstr
  have hnew : s'.heap.size ≤ T.heap.size := by rw [hhp, hT]; exact Nat.le_refl _
  obtain ⟨V, ce, L9, X₂, hL9, hlt, hcc, hcv, hsteps⟩ := xx_ctorMade X₁ hexec htr (own := own) (ic := ic) hown' h (fun x hx => nomatch hx) hfX hkX hcellA hnew (msg := .ref sa) rfl
    (g := { method := m, pc := pc + 6, locals := ls, stack := .ref sa :: .ref T.heap.size :: .ref T.heap.size :: rest, locked := none }) rfl hsize (rest := rest) rfl
    (by rw [hb]; exact d6) hRframes (by simp only [List.map_cons, List.sum_cons, hcat]; omega)
  obtain ⟨hwalk, hrun, hend, hW, hsame0⟩ := X₂.athrowLeaves hexec (g := { method := m, pc := pc + 9, locals := ls, stack := .ref T.heap.size :: rest, locked := none }) rfl rfl rfl hout (a := T.heap.size) (rest := rest) rfl (by rw [hb]; exact d9) hlocks
  generalize hU9 : (V.setCell T.heap.size ce).setFrames (.throwing T.heap.size :: below) = U at hwalk hrun hend hW hsame0
  have hce : U.heap[T.heap.size]? = some ce := by rw [← hU9]; exact heapAt_setCell_self ce hlt
  have hsame : s'.sameButNew ({ U with vm := s'.vm } : State) [] 1 6 := hsame0.weaken (fun y hy hlt' => by
    have hb9 : y.base = T.heap.size := hL9 y (by simpa using hy)
    rw [hb9] at hlt'
    exact absurd hlt' (Nat.not_lt.mpr hnew)) (Nat.le_refl _) (Nat.le_refl _)
  obtain ⟨f1, f2⟩ := vx_frame hsame
  rw [hhp] at f1 f2
  have hWs : s.WarmedH U.vm := State.WarmedH.trans hW0 hW
  have hcl : s.vm.findClass NE = some ce.cls := by
    rw [hcc, ← hvm]
    exact hfX
  have hall : s.sameButNew ({ U with vm := s.vm } : State) locs mc ms := by
    subst hA
    obtain ⟨e1, e2⟩ := hsame
    rw [State.setFrames_setFrames] at e1
    have h2 : (T.setVm s.vm).sameButNew ({ U with vm := s.vm } : State) [] (0 + 1) (0 + 6) := ⟨e1, e2⟩
    have h3 := X.same.trans h2
    rw [List.append_nil] at h3
    exact h3.mono hc hs
  refine ⟨U, ?_, .threw T.heap.size, hrun, hend, Or.inr ⟨T.heap.size, rfl, NE, ce, locs, hx U hWs.alike f1 (fun q hq => f2 q hq (fun z hz => nomatch hz)), hce, hcv, hcl, hWs, hall, hf⟩⟩
  refine st1 _ ?_
  show Steps p.tables e below (T1.setTop { method := m, pc := pc + 3, locals := ls, stack := .ref T.heap.size :: rest, locked := none }) _
  jvm_step X₁.here [X₁.here.top, hexec, d3', Value.category]
  exact X₁.ldcString hexec (own := own) (text := text) (index := is) (a := sa) hown' hstr'.1 hstr'.2
    (g := { method := m, pc := pc + 4, locals := ls, stack := .ref T.heap.size :: .ref T.heap.size :: rest, locked := none }) rfl d4' _ (hsteps _ hwalk)
end XTH
section ThrowRules
variable {Γ : Gm} {cc : ByteArray} {d pc : Nat} {L : List (Option PV)} {σ : Sg} {post : Option PV → Sg → Prop} {px : Sg → Prop}
theorem j_iretX {own : String} {rt : FieldType} {v : Int32} (hc : Cx Γ own cc d) (hr : RtX Γ (some rt) post px) (hd : decode cc pc = .ok (.ireturn, 1)) (hn : narrow rt (.int v) = .int v) (hp : post (some (.inl v)) σ) : J Γ pc L [.inl v] σ := by
  obtain ⟨p, l, e, R, s, m, args, below, meth, c, D, K, ad, A, nL, cells, slots, Q⟩ := Γ
  obtain ⟨hx, hb, hml, hown, hts, hK, hA, hfr, hlo, hce, hsl⟩ := hc
  intro hL H locs ls hP hS hl
  obtain ⟨r1, r2, rfl, rfl, rfl, rfl, -⟩ := hr
  exact W.widen (k := 1) (n := 6) (by decide) (by decide) (vx_ret (W.zret hx hb r1 hn (fun t ht hW => ⟨⟨some (.inl v), σ, rfl, hp, by rw [ht]; exact hP⟩, hS.F ht⟩) hS.2.2 hd r2))
theorem j_throw {rt : Option FieldType} {is : Nat} {text : String} (hc : Cx Γ RX2 cc d) (hr : RtX Γ rt post px) (hm : (is, text) ∈ xStr) (d0 : decode cc pc = .ok (.new 167, 3)) (d3 : decode cc (pc + 3) = .ok (.dup, 1)) (d4 : decode cc (pc + 4) = .ok (.ldc is, 2)) (d6 : decode cc (pc + 6) = .ok (.invokespecial 171, 3)) (d9 : decode cc (pc + 9) = .ok (.athrow, 1)) (hp : px σ) : J Γ pc L [] σ := by
  obtain ⟨p, l, e, R, s, m, args, below, meth, c, D, K, ad, A, nL, cells, slots, Q⟩ := Γ
  obtain ⟨hx, hb, hml, hown, hts, hK, hA, hfr, hlo, hce, hsl⟩ := hc
  intro hL H locs ls hP hS hl
  obtain ⟨r1, r2, rfl, rfl, rfl, rfl, htab, hst, hTx, q1, q2, q3, q4⟩ := hr
  obtain ⟨sa, hstr⟩ := hTx.2.2.1 _ hm
  have hat : ∀ w ∈ xAt, w.before args s = true := fun w hw => by
    rcases xAt_bad w hw with h | h
    · exact hts w (TT_in (xAt_in w (List.mem_filter.mpr ⟨hw, h⟩)) h)
    · exact va_Nw.use (xBad_ot w h) (hTx.2.2.2 w h)
  exact xx_throw (own := RX2) (text := text) (ik := 167) (is := is) (ic := 171) (sa := sa) (A := adS ad) hx hb hst hown (hts _ xCl) (hts _ xIn) hstr hat
    (fun w hw => by
      rcases List.mem_cons.mp hw with rfl | h
      · decide +kernel
      · rcases List.mem_cons.mp h with rfl | h
        · decide +kernel
        · exact xAt_ot w h) hTx.1 hTx.2.1 hS (hl.1.trans hml.symm) d0 d3 d4 d6 d9 (fun x hx => (htab x hx).elim) (by show 2 + 3 < R.frames; omega) (by show 0 + (13 * (2 + 1) + 43) ≤ R.locals; omega) (by omega) (by omega) r2
    (fun t _ hz hq => ⟨rfl, ⟨σ, hp, hP.kept (fun k q hk => hq q.1 (vx_lt hP hk))⟩, ⟨Nat.le_trans hS.1 hz, fun q h1 h2 => by rw [hq q (Nat.lt_of_lt_of_le h1 hS.1)]; exact hS.2.1 q h1 h2⟩⟩) hS.2.2 (by decide) (by decide)
end ThrowRules
theorem sp_atX {T : TS} {σ : Sg} (hX : InvX T σ) (hW : WF T) (x y w : Int32) : SpX yX2_at cX2_at 5 (some .int) 6 [.inr 0, .inl x, .inl y, .inl w] σ (fun r σ' => okAt T x y w = true ∧ r = some (.inl (aAt T x.toNatClampNeg y.toNatClampNeg w.toNatClampNeg)) ∧ InvX T σ' ∧ frXo σ σ') (fun σ' => okAt T x y w = false ∧ InvX T σ' ∧ frXo σ σ') := by
  have h4 := hW.2.2.2.1
  refine SpX.intro rfl (Nat.le_of_ble_eq_true rfl) (by decide) (fun Γ c r => ?_)
  show J Γ 0 [some (.inr 0), some (.inl x), some (.inl y), some (.inl w), none] [] σ
  have hok : okAt T x y w = (okDrop T x y && isN w 5) := rfl
  refine j_aload_n c dX2_at_0 rfl ?_
  refine j_iload_n c dX2_at_1 rfl ?_
  refine j_iload_n c dX2_at_2 rfl ?_
  refine j_callV1 c kw_X2_120 (sp_hasMethod hX hW x y) dX2_at_3 rfl rfl (by decide) (Nat.le_of_ble_eq_true rfl) (Nat.le_of_ble_eq_true rfl) rfl rfl ?_
  refine j_if_ne c 19 dX2_at_6 (by decide) (fun e => ?_) (fun e => ?_)
  · have e2 := bI_nz e
    rw [e2, Bool.true_and] at hok
    have e3 := e2
    unfold okDrop at e3
    simp only [Bool.and_eq_true] at e3
    obtain ⟨i, hi, hi2, rfl⟩ := isN_of e3.1
    obtain ⟨m, hm, hm2, rfl⟩ := isN_of e3.2.1
    have hs := e3.2.2
    rw [nI_clamp hi2, nI_clamp hm2] at hs
    obtain ⟨t, et⟩ := Option.isSome_iff_exists.mp hs
    have hp : FnP (15 + 7 * i) := FnP.of (by omega)
    have hF := hX.2.2.2.2.2.1 i hi
    have hkv := hX.2.2.2.2.2.2.2.2.1 i m t hi et
    refine j_aload_n c dX2_at_19 rfl ?_
    refine j_getR c fl_X2_18 dX2_at_20 (Nat.le_of_ble_eq_true rfl) rfl rfl ?_
    refine j_iload_n c dX2_at_23 rfl ?_
    refine j_aald c dX2_at_24 (Nat.le_of_ble_eq_true rfl) rfl rfl (by omega) (by decide) ?_
    refine j_astore c dX2_at_25 (Nat.le_of_ble_eq_true rfl) rfl ?_
    refine j_iload_n c dX2_at_27 rfl ?_
    by_cases hw : isN w 5 = true
    · obtain ⟨k, hk5, hk2, rfl⟩ := isN_of hw
      rw [hw] at hok
      rw [nI_clamp hi2, nI_clamp hm2, nI_clamp hk2] at r
      rcases (show k = 0 ∨ k = 1 ∨ k = 2 ∨ k = 3 ∨ k = 4 by omega) with rfl | rfl | rfl | rfl | rfl
      · refine j_tableIn (off := 36) c 64 dX2_at_28 (by decide) (by decide) (by decide) (by decide) ?_
        refine j_aload c dX2_at_64 rfl ?_
        refine j_getR c fl_X2_174 dX2_at_66 hp.lt0 (lf0 hp) rfl ?_
        refine j_iload_n c dX2_at_69 rfl ?_
        refine j_iald c dX2_at_70 (hp.lt (by decide)) (lf1 hp) rfl (by omega) (by decide) ?_
        exact j_iretX c r dX2_at_71 rfl ⟨hok, by rw [hF.2.2.1 m t et, show aAt T i m 0 = oI (ttg T i m) from rfl, et]; rfl, hX, frXo.rfl' σ⟩
      · refine j_tableIn (off := 44) c 72 dX2_at_28 (by decide) (by decide) (by decide) (by decide) ?_
        refine j_aload c dX2_at_72 rfl ?_
        refine j_getR c fl_X2_110 dX2_at_74 hp.lt0 (lf0 hp) rfl ?_
        refine j_iload_n c dX2_at_77 rfl ?_
        refine j_iald c dX2_at_78 (hp.lt (by decide)) (lf2 hp) rfl (by omega) (by decide) ?_
        exact j_iretX c r dX2_at_79 rfl ⟨hok, by rw [hkv.1]; rfl, hX, frXo.rfl' σ⟩
      · refine j_tableIn (off := 52) c 80 dX2_at_28 (by decide) (by decide) (by decide) (by decide) ?_
        refine j_aload c dX2_at_80 rfl ?_
        refine j_getR c fl_X2_113 dX2_at_82 hp.lt0 (lf0 hp) rfl ?_
        refine j_iload_n c dX2_at_85 rfl ?_
        refine j_iald c dX2_at_86 (hp.lt (by decide)) (lf3 hp) rfl (by omega) (by decide) ?_
        exact j_iretX c r dX2_at_87 rfl ⟨hok, by rw [hkv.2]; rfl, hX, frXo.rfl' σ⟩
      · refine j_tableIn (off := 60) c 88 dX2_at_28 (by decide) (by decide) (by decide) (by decide) ?_
        refine j_aload_n c dX2_at_88 rfl ?_
        refine j_iload_n c dX2_at_89 rfl ?_
        refine j_iload_n c dX2_at_90 rfl ?_
        refine j_callV c kw_X2_151 (sp_callsAnswered hX hW hi (nI m) (fun h => nI_pos (n := m) (by omega) (by rw [h]; decide))) dX2_at_91 rfl rfl (by decide) (Nat.le_of_ble_eq_true rfl) (Nat.le_of_ble_eq_true rfl) rfl rfl ?_
        rintro _ σ1 ⟨rfl, hP⟩
        exact j_iretX c r dX2_at_94 rfl ⟨hok, rfl, hP.1, hP.fr⟩
      · refine j_tableIn (off := 67) c 95 dX2_at_28 (by decide) (by decide) (by decide) (by decide) ?_
        refine j_aload_n c dX2_at_95 rfl ?_
        refine j_aload c dX2_at_96 rfl ?_
        refine j_iload_n c dX2_at_98 rfl ?_
        refine j_callV1 c kw_X2_177 (sp_callsTaken hX hW hi hm) dX2_at_99 rfl rfl (by decide) (Nat.le_of_ble_eq_true rfl) (Nat.le_of_ble_eq_true rfl) rfl rfl ?_
        exact j_iretX c r dX2_at_102 rfl ⟨hok, rfl, hX, frXo.rfl' σ⟩
    · have hw2 : isN w 5 = false := by simpa using hw
      refine j_tableOut c 103 dX2_at_28 (by simp [isN] at hw; omega) (by decide) ?_
      exact j_throw (is := 181) (text := "nothing else is told of a method") c r (by decide) dX2_at_103 dX2_at_106 dX2_at_107 dX2_at_109 dX2_at_112 ⟨by rw [hok, hw2], hX, frXo.rfl' σ⟩
  · exact j_throw (is := 169) (text := "no such method") c r (by decide) dX2_at_9 dX2_at_12 dX2_at_13 dX2_at_15 dX2_at_18 ⟨by rw [hok, bI_z e]; rfl, hX, frXo.rfl' σ⟩
