/-! THE CLAIM OUT OF ONE WALK OF THE LAW'S BODY. Your part is whole_start (and what it stands on); all else here is the same for every law, but numbers. -/
def R_law : String := "TupleMethodsLaw"
def lw_P (b : Addr) (xs : List Int32) (args : Array Value) (s : State) : Prop := args = #[.ref b] ∧ s.IntsAt b xs ∧ xs.length ≤ 2560 ∧ (Jvm.Cond.and given_1 narrow_1).before args s = true
def lw_Q (_ : Array Value) (s : State) (o : Outcome) (t : State) : Prop := o = .returned (some (.int 1)) ∧ Framed s o t [] 601024 7293034
def lw_Z (below : List Frame) (a : Array Value) (s : State) : State → Prop := fun t => ∃ o, t.status = .running ∧ Ended t below o ∧ lw_Q a s o t
/-- the law's own end, with 1 on the stack, nothing written that was there before, its room as the claim has it -/
theorem lw_ret {p : Program} {l : Launch} {e : Env} {s : State} {m : MethodId} {below : List Frame} {meth : Method} {c : Code} {b : Nat} (hx : p.tables.exec = Jvm.exec) (hb : c.code = code) (hr : meth.sig.returnType = ret) (hlocks : meth.locks = false) {pc : Nat} {H : Heap} {ls : Array Slot} (hdg : decode code pc = .ok (.ireturn, 1)) : W p l e room_1 s m #[Value.ref b] below meth c H [] 601024 7293034 (lw_Z below #[Value.ref b] s) (F0 m pc ls [.int 1]) := by
  intro T hT X
  obtain ⟨fs, hret, hrun, hended, hW, hframe⟩ := X.leave (v := some (.int 1)) (hlocks := hlocks) (fun h => by rw [hr] at h; cases h)
  have hmeth' : T.vm.method? m = some meth := X.method'
  refine ⟨T.setFrames fs, ?_, .returned (some (.int 1)), hrun, hended, rfl, ⟨_, rfl⟩, hW, hframe⟩
  jvm_step X.here [X.here.top, hx, hb, hdg, hmeth', hr, ret, narrow_b1]
  (try refine ⟨rfl, ?_⟩); (try refine ⟨rfl, ?_⟩)
  first | (intro acts; rw [hret _ acts rfl rfl rfl]) | rw [hret _ _ rfl rfl rfl]
  exact Steps.refl _
/-- what holds at the law's entry: the machine, the code, the tables' words (any of lw_tbl by 'hts w (by decide +kernel)'), the script of L ints xs at the cell b, what the Statement gives of the start (any of its parts by flat_of_before) -/
def lw_At (p : Program) (s : State) (m : MethodId) (meth : Method) (c : Code) (b L : Nat) (xs : Nat → Int32) : Prop :=
  p.tables.exec = Jvm.exec ∧ c.code = code ∧ meth.sig.returnType = ret ∧ c.maxLocals = 7 ∧ s.vm.findClass R_law = some m.cls ∧ (∀ w ∈ lw_tbl, w.before #[Value.ref b] s = true) ∧ va_X b L xs s s.heap ∧ b < s.heap.size ∧ meth.locks = false ∧ (Jvm.Cond.and given_1 narrow_1).before #[Value.ref b] s = true
-- ===== YOUR PART BEGINS =====
/-- YOUR PART: from the entry, for every script of at most 2560 ints, the law comes to its end with true ('hflags': the launch's flags, for a law that throws: no stack traces) -/
theorem whole_start {p : Program} {e : Env} {s : State} {m : MethodId} {below : List Frame} {meth : Method} {c : Code} (l : Launch) (hflags : l.flags = flags0) {b L : Nat} {xs : Nat → Int32} (hL : L ≤ 2560) (C0 : lw_At p s m meth c b L xs) : W p l e room_1 s m #[Value.ref b] below meth c s.heap [] 0 0 (lw_Z below #[Value.ref b] s) (entryFrame m ([Value.ref b] : List Value).toArray 7) := by
  obtain ⟨hx, hb, hr, hml, hown, hts, hX, hbl, hlocks, hgv⟩ := id C0
  obtain ⟨D, K, hK, hN, hao⟩ := K_lw hts
  have hl := lv_entry ([Value.ref b] : List Value) (n := 7) (Nat.le_of_ble_eq_true rfl)
  rw [lg_entry_eq]
  generalize (lg_sl ([Value.ref b] : List Value) ++ List.replicate (7 - (lg_sl ([Value.ref b] : List Value)).length) Slot.unset).toArray = ls at hl ⊢
  have hl : lv_has ls 7 [(0, .ref b)] := hl
  have mk : ∀ (ad : Nat → Nat) (cells slots : Nat), adInj ad → (∀ i, i < 68 → s.heap.size ≤ ad i) → cells ≤ 601024 → slots ≤ 7293034 → Cx (p, l, e, room_1, s, m, #[Value.ref b], below, meth, c, D, K, ad, fun q => s.heap.size ≤ q, 7, cells, slots, lw_Z below #[Value.ref b] s) RL cL_law 10 := fun ad cells slots h1 h2 h3 h4 =>
    ⟨hx, hb, hml, hown, TT_lw hts, ⟨hK, Nst_lw hts, h1⟩, h2, Nat.le_of_ble_eq_true rfl, Nat.le_of_ble_eq_true rfl, h3, h4⟩
  have c0 := mk (fun i => s.heap.size + i) 0 0 (fun i j _ _ h => Nat.add_left_cancel h) (fun i _ => Nat.le_add_right _ _) (Nat.zero_le _) (Nat.zero_le _)
  have main := law_new (b := b) c0 ⟨fun _ h => h, hN⟩ (fun _ h => h) hao (fun i hi => show i < 7 by omega) (fun k n h1 h2 => ⟨show k ≤ 601024 by omega, show n ≤ 7293034 by omega⟩) (fun x0 y0 z0 ws2 ws3 h2 h3 => law_J h2 h3 (fun ad a68 aI aA => by
    have c1 := mk ad 68 14415 aI aA (by omega) (by omega)
    refine j_iconst c1 (nI 0) dL_law_20 (by decide) ?_
    refine j_istore c1 dL_law_21 (Nat.le_of_ble_eq_true rfl) rfl ?_
    refine law_loop (xs := xs) hL 512 0 _ (by omega) (by omega) c1 ⟨by rw [a68]; exact hX, by rw [a68]; exact hbl, by rw [a68]; exact Nat.not_le.mpr hbl⟩ (fun k hk σ L0 => ?_) (fun k hk => ?_) s00 none none (Bth_s00 rfl)
    · rw [bmpN_eq k 68 14415 (68 + k) (14415 + 6 * k) rfl rfl]
      intro _ H locs ls' hP hS _
      refine W.widen (k := 601024) (n := 7293034) (by omega) (by omega) ?_
      refine va_forget (fun q hq => hS.2.2 q hq) ?_
      exact lw_ret hx hb hr hlocks dL_law_1141
    · rw [bmpN_eq k 68 14415 (68 + k) (14415 + 6 * k) rfl rfl]
      exact ⟨noTr hflags, Tx_lw hts hgv, show 68 + k + 1 ≤ 601024 by omega, show 14415 + 6 * k + 6 ≤ 7293034 by omega⟩))
  exact main s.heap [] ls (fun k q h => by simp at h) ⟨fun i j p q h => by simp at h, fun k q h => by simp at h⟩ va_S.rf hl
