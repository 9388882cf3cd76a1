-- ===== 02b: the judgement over pure states, a rule an instruction =====
def nestF : List (String × Nat × String × String × String × String) := [("TupleMethods", 57, "TupleMethods$Classes", "size", "I", "TupleMethods"), ("TupleMethods$Function", 44, "TupleMethods$Classes", "size", "I", "TupleMethods"), ("TupleMethods", 243, "TupleMethods$Classes", "parents", "[I", "TupleMethods"), ("TupleMethods", 240, "TupleMethods$Classes", "parentCounts", "[I", "TupleMethods"), ("TupleMethods", 90, "TupleMethods$Classes", "all", "[I", "TupleMethods"), ("TupleMethods", 83, "TupleMethods$Classes", "lists", "[I", "TupleMethods"), ("TupleMethods", 80, "TupleMethods$Classes", "lengths", "[I", "TupleMethods"), ("TupleMethods", 234, "TupleMethods$Classes", "ranks", "[I", "TupleMethods"), ("TupleMethods", 93, "TupleMethods$Function", "places", "I", "TupleMethods"), ("TupleMethods", 126, "TupleMethods$Function", "used", "I", "TupleMethods"), ("TupleMethods", 174, "TupleMethods$Function", "targets", "[I", "TupleMethods"), ("TupleMethods", 110, "TupleMethods$Function", "kinds", "[I", "TupleMethods"), ("TupleMethods", 113, "TupleMethods$Function", "values", "[I", "TupleMethods"), ("TupleMethods", 203, "TupleMethods$Function", "keptCalls", "[I", "TupleMethods"), ("TupleMethods", 135, "TupleMethods$Function", "keptCount", "I", "TupleMethods")]
def nestM : List (String × Nat × MethodName × String) := [("TupleMethods", 22, ⟨"TupleMethods$Function", "<init>", "()V"⟩, "TupleMethods"), ("TupleMethods$Function", 40, ⟨"TupleMethods", "classAt", "(II)I"⟩, "TupleMethods"), ("TupleMethods$Classes", 47, ⟨"TupleMethods", "classAt", "(II)I"⟩, "TupleMethods")]
def Nst (U : State) : Prop := (∀ t ∈ nestF, va_Nw (.fieldLinkNest t.1 t.2.1 t.2.2.1 t.2.2.2.1 t.2.2.2.2.1 t.2.2.2.2.2) U) ∧ ∀ t ∈ nestM, va_Nw (.methodLinkNest t.1 t.2.1 t.2.2.1 t.2.2.2) U
theorem Nst.same {u U : State} (h : u.vm = U.vm) (hN : Nst u) : Nst U := ⟨fun t ht => va_Nw.same rfl h (hN.1 t ht), fun t ht => va_Nw.same rfl h (hN.2 t ht)⟩
theorem Nst.warm {s U : State} (hW : s.WarmedH U.vm) (hN : Nst s) : Nst U := ⟨fun t ht => va_Nw.warmF hW (hN.1 t ht), fun t ht => va_Nw.warmM hW (hN.2 t ht)⟩
def Kx (D : va_G) (K : CK) (ad : Nat → Nat) (U : State) : Prop := va_K D vwCl (tysK K) U ∧ Nst U ∧ adInj ad
abbrev Gm : Type := Program × Launch × Env × Room × State × MethodId × Array Value × List Frame × Method × Code × va_G × CK × (Nat → Nat) × (Nat → Prop) × Nat × Nat × Nat × (State → Prop)
/-- the machine at pc, with the locals L, the stack st, the cells as σ says, comes to an end as Γ wants it -/
def J (Γ : Gm) (pc : Nat) (L : List (Option PV)) (st : List PV) (σ : Sg) : Prop := match Γ with
  | (p, l, e, R, s, m, args, below, meth, c, D, K, ad, A, nL, cells, slots, Q) => L.length = nL → ∀ (H : Heap) (locs : List Loc) (ls : Array Slot), va_P D vwCl (wld K ad σ) H → va_S A s.heap H locs → lv_has ls nL (lvl ad 0 L) → W p l e R s m args below meth c H locs cells slots Q (F0 m pc ls (st.map (lvv ad)))
def Cx (Γ : Gm) (own : String) (cc : ByteArray) (d : Nat) : Prop := match Γ with
  | (p, _, _, R, s, m, args, _, _, c, D, K, ad, A, nL, cells, slots, _) => p.tables.exec = Jvm.exec ∧ c.code = cc ∧ c.maxLocals = nL ∧ s.vm.findClass own = some m.cls ∧ (∀ w ∈ TT, w.before args s = true) ∧ Kx D K ad s ∧ (∀ i, i < 68 → A (ad i)) ∧ d ≤ R.frames ∧ 38 * d ≤ R.locals ∧ cells ≤ R.cells ∧ slots ≤ R.slots
def Qp (D : va_G) (K : CK) (ad : Nat → Nat) (post : Option PV → Sg → Prop) : Array Value → State → Outcome → State → Prop := fun _ st oc t => (∃ (r : Option PV) (σ' : Sg), oc = .returned (r.map (lvv ad)) ∧ post r σ' ∧ va_P D vwCl (wld K ad σ') t.heap) ∧ va_F (adS ad) st t
def Rt (Γ : Gm) (rt : Option FieldType) (post : Option PV → Sg → Prop) : Prop := match Γ with
  | (_, _, _, _, s, _, args, below, meth, _, D, K, ad, A, _, cells, slots, Q) => meth.sig.returnType = rt ∧ meth.locks = false ∧ A = adS ad ∧ cells = 0 ∧ slots = 0 ∧ Q = MQ below (Qp D K ad post) args s 0 0 (adS ad)
/-- a method's contract: at the arguments as, in the state σ, at most d frames deep, it comes back with 'post answer σ' -/
def Sp (y : MethodName) (cc : ByteArray) (nL : Nat) (rt : Option FieldType) (d : Nat) (as : List PV) (σ : Sg) (post : Option PV → Sg → Prop) : Prop :=
  ∀ (l : Launch) (D : va_G) (K : CK) (ad : Nat → Nat), Met l y (.code y cc nL rt :: TT) ({ frames := d, cells := 0, slots := 0, locals := 38 * d }) (va_Pc (as.map (lvv ad)) (fun U => va_P D vwCl (wld K ad σ) U.heap ∧ Kx D K ad U)) (Qp D K ad post) 0 0 (adS ad)
theorem Sp.intro {y : MethodName} {cc : ByteArray} {nL : Nat} {rt : Option FieldType} {d : Nat} {as : List PV} {σ : Sg} {post : Option PV → Sg → Prop} (hy : plainName y.cls = true) (hn : as.length ≤ nL)
    (body : ∀ Γ : Gm, Cx Γ y.cls cc d → Rt Γ rt post → J Γ 0 (as.map some ++ List.replicate (nL - as.length) none) [] σ) : Sp y cc nL rt d as σ post := by
  intro l D K ad
  refine Met.ofW (cc := cc) (maxL := nL) (ret := rt) hy rfl ?_
  intro p e s m args below meth c s₁ B hml hv
  obtain ⟨rfl, hP, hKx⟩ := hv
  have hts := atoms_spec (ws := .code y cc nL rt :: TT) B.pre
  have J0 := body (p, l, e, (headSpec (.code y cc nL rt :: TT) ({ frames := d, cells := 0, slots := 0, locals := 38 * d })).room, s, m, (as.map (lvv ad)).toArray, below, meth, c, D, K, ad, adS ad, nL, 0, 0, MQ below (Qp D K ad post) (as.map (lvv ad)).toArray s 0 0 (adS ad))
    ⟨B.exec, B.bytes, hml, findClass_of_methodNamed B.named, fun w hw => hts w (List.mem_cons_of_mem _ hw), hKx, fun i hi => ⟨i, hi, rfl⟩, Nat.le_refl _, Nat.le_refl _, Nat.zero_le _, Nat.zero_le _⟩
    ⟨B.returns, B.notSynchronized, rfl, rfl, rfl, rfl⟩
  have hl := lv_entry (as.map (lvv ad)) (n := nL) (by rw [lg_sl_len]; exact hn)
  rw [lvl_args (k := nL - as.length)] at hl
  rw [lg_entry_eq]
  exact J0 (by simp; omega) s.heap [] _ hP va_S.rf hl
theorem J.len {Γ : Gm} {pc : Nat} {L : List (Option PV)} {st : List PV} {σ : Sg} (h : L.length = Γ.2.2.2.2.2.2.2.2.2.2.2.2.2.2.1 → J Γ pc L st σ) : J Γ pc L st σ := by
  obtain ⟨p, l, e, R, s, m, args, below, meth, c, D, K, ad, A, nL, cells, slots, Q⟩ := Γ
  intro hL
  exact h hL hL
section Rules
variable {Γ : Gm} {own : String} {cc : ByteArray} {d pc : Nat} {L : List (Option PV)} {st : List PV} {σ : Sg}
theorem j_iconst (hc : Cx Γ own cc d) {n : Int} (v : Int32) (hd : decode cc pc = .ok (.iconst n, 1)) (hv : Int32.ofInt n = v) (n1 : J Γ (pc + 1) L (.inl v :: st) σ) : J Γ pc L st σ := by
  obtain ⟨p, l, e, R, s, m, args, below, meth, c, D, K, ad, A, nL, cells, slots, Q⟩ := Γ
  obtain ⟨hx, hb, hml, hown, hts, hK, hA, hfr, hlo, hce, hsl⟩ := hc
  intro hL H locs ls hP hS hl
  exact lv_iconst hx hb hd hv (n1 hL H locs ls hP hS hl)
theorem j_bipush (hc : Cx Γ own cc d) {n : Int} (v : Int32) (hd : decode cc pc = .ok (.bipush n, 2)) (hv : (Int8.ofInt n).toInt32 = v) (n1 : J Γ (pc + 2) L (.inl v :: st) σ) : J Γ pc L st σ := by
  obtain ⟨p, l, e, R, s, m, args, below, meth, c, D, K, ad, A, nL, cells, slots, Q⟩ := Γ
  obtain ⟨hx, hb, hml, hown, hts, hK, hA, hfr, hlo, hce, hsl⟩ := hc
  intro hL H locs ls hP hS hl
  exact lv_bipush hx hb hd hv (n1 hL H locs ls hP hS hl)
theorem j_sipush (hc : Cx Γ own cc d) {n : Int} (v : Int32) (hd : decode cc pc = .ok (.sipush n, 3)) (hv : (Int16.ofInt n).toInt32 = v) (n1 : J Γ (pc + 3) L (.inl v :: st) σ) : J Γ pc L st σ := by
  obtain ⟨p, l, e, R, s, m, args, below, meth, c, D, K, ad, A, nL, cells, slots, Q⟩ := Γ
  obtain ⟨hx, hb, hml, hown, hts, hK, hA, hfr, hlo, hce, hsl⟩ := hc
  intro hL H locs ls hP hS hl
  exact lv_sipush hx hb hd hv (n1 hL H locs ls hP hS hl)
theorem j_ldcw (hc : Cx Γ own cc d) {index : Nat} (v : Int32) (hw : Cond.constant own index v ∈ TT) (hd : decode cc pc = .ok (.ldc_w index, 3)) (n1 : J Γ (pc + 3) L (.inl v :: st) σ) : J Γ pc L st σ := by
  obtain ⟨p, l, e, R, s, m, args, below, meth, c, D, K, ad, A, nL, cells, slots, Q⟩ := Γ
  obtain ⟨hx, hb, hml, hown, hts, hK, hA, hfr, hlo, hce, hsl⟩ := hc
  intro hL H locs ls hP hS hl
  exact lv_ldcw hx hb hown (hts _ hw) hd (n1 hL H locs ls hP hS hl)
theorem j_iload_n (hc : Cx Γ own cc d) {k : Fin 4} {x : Int32} (hd : decode cc pc = .ok (.iload_n k, 1)) (hk : L[(k : Nat)]? = some (some (.inl x))) (n1 : J Γ (pc + 1) L (.inl x :: st) σ) : J Γ pc L st σ := by
  obtain ⟨p, l, e, R, s, m, args, below, meth, c, D, K, ad, A, nL, cells, slots, Q⟩ := Γ
  obtain ⟨hx, hb, hml, hown, hts, hK, hA, hfr, hlo, hce, hsl⟩ := hc
  intro hL H locs ls hP hS hl
  exact lv_iload_n hx hb hd rfl (lvl_at hl hk) (n1 hL H locs ls hP hS hl)
theorem j_iload (hc : Cx Γ own cc d) {k : Nat} {x : Int32} (hd : decode cc pc = .ok (.iload k, 2)) (hk : L[k]? = some (some (.inl x))) (n1 : J Γ (pc + 2) L (.inl x :: st) σ) : J Γ pc L st σ := by
  obtain ⟨p, l, e, R, s, m, args, below, meth, c, D, K, ad, A, nL, cells, slots, Q⟩ := Γ
  obtain ⟨hx, hb, hml, hown, hts, hK, hA, hfr, hlo, hce, hsl⟩ := hc
  intro hL H locs ls hP hS hl
  exact lv_iload hx hb hd (lvl_at hl hk) (n1 hL H locs ls hP hS hl)
theorem j_aload_n (hc : Cx Γ own cc d) {k : Fin 4} {x : Nat} (hd : decode cc pc = .ok (.aload_n k, 1)) (hk : L[(k : Nat)]? = some (some (.inr x))) (n1 : J Γ (pc + 1) L (.inr x :: st) σ) : J Γ pc L st σ := by
  obtain ⟨p, l, e, R, s, m, args, below, meth, c, D, K, ad, A, nL, cells, slots, Q⟩ := Γ
  obtain ⟨hx, hb, hml, hown, hts, hK, hA, hfr, hlo, hce, hsl⟩ := hc
  intro hL H locs ls hP hS hl
  exact lv_aload_n hx hb hd rfl (lvl_at hl hk) (n1 hL H locs ls hP hS hl)
theorem j_aload (hc : Cx Γ own cc d) {k : Nat} {x : Nat} (hd : decode cc pc = .ok (.aload k, 2)) (hk : L[k]? = some (some (.inr x))) (n1 : J Γ (pc + 2) L (.inr x :: st) σ) : J Γ pc L st σ := by
  obtain ⟨p, l, e, R, s, m, args, below, meth, c, D, K, ad, A, nL, cells, slots, Q⟩ := Γ
  obtain ⟨hx, hb, hml, hown, hts, hK, hA, hfr, hlo, hce, hsl⟩ := hc
  intro hL H locs ls hP hS hl
  exact lv_aload hx hb hd (lvl_at hl hk) (n1 hL H locs ls hP hS hl)
theorem j_istore_n (hc : Cx Γ own cc d) {k : Fin 4} {x : Int32} {L1 : List (Option PV)} (hd : decode cc pc = .ok (.istore_n k, 1)) (hk : (k : Nat) < L.length) (h1 : L.set (k : Nat) (some (.inl x)) = L1) (n1 : J Γ (pc + 1) L1 st σ) : J Γ pc L (.inl x :: st) σ := by
  obtain ⟨p, l, e, R, s, m, args, below, meth, c, D, K, ad, A, nL, cells, slots, Q⟩ := Γ
  obtain ⟨hx, hb, hml, hown, hts, hK, hA, hfr, hlo, hce, hsl⟩ := hc
  intro hL H locs ls hP hS hl
  subst h1
  exact lv_istore_n hx hb hd rfl hl (by rw [← hL]; exact hk) rfl (fun ls' h' => n1 (by rw [List.length_set]; exact hL) H locs ls' hP hS (lvl_store (v := .inl x) h'))
theorem j_istore (hc : Cx Γ own cc d) {k : Nat} {x : Int32} {L1 : List (Option PV)} (hd : decode cc pc = .ok (.istore k, 2)) (hk : k < L.length) (h1 : L.set k (some (.inl x)) = L1) (n1 : J Γ (pc + 2) L1 st σ) : J Γ pc L (.inl x :: st) σ := by
  obtain ⟨p, l, e, R, s, m, args, below, meth, c, D, K, ad, A, nL, cells, slots, Q⟩ := Γ
  obtain ⟨hx, hb, hml, hown, hts, hK, hA, hfr, hlo, hce, hsl⟩ := hc
  intro hL H locs ls hP hS hl
  subst h1
  exact lv_istore hx hb hd hl (by rw [← hL]; exact hk) rfl (fun ls' h' => n1 (by rw [List.length_set]; exact hL) H locs ls' hP hS (lvl_store (v := .inl x) h'))
theorem j_astore_n (hc : Cx Γ own cc d) {k : Fin 4} {x : Nat} {L1 : List (Option PV)} (hd : decode cc pc = .ok (.astore_n k, 1)) (hk : (k : Nat) < L.length) (h1 : L.set (k : Nat) (some (.inr x)) = L1) (n1 : J Γ (pc + 1) L1 st σ) : J Γ pc L (.inr x :: st) σ := by
  obtain ⟨p, l, e, R, s, m, args, below, meth, c, D, K, ad, A, nL, cells, slots, Q⟩ := Γ
  obtain ⟨hx, hb, hml, hown, hts, hK, hA, hfr, hlo, hce, hsl⟩ := hc
  intro hL H locs ls hP hS hl
  subst h1
  exact lv_astore_n hx hb hd rfl hl (by rw [← hL]; exact hk) rfl (fun ls' h' => n1 (by rw [List.length_set]; exact hL) H locs ls' hP hS (lvl_store (v := .inr x) h'))
theorem j_astore (hc : Cx Γ own cc d) {k : Nat} {x : Nat} {L1 : List (Option PV)} (hd : decode cc pc = .ok (.astore k, 2)) (hk : k < L.length) (h1 : L.set k (some (.inr x)) = L1) (n1 : J Γ (pc + 2) L1 st σ) : J Γ pc L (.inr x :: st) σ := by
  obtain ⟨p, l, e, R, s, m, args, below, meth, c, D, K, ad, A, nL, cells, slots, Q⟩ := Γ
  obtain ⟨hx, hb, hml, hown, hts, hK, hA, hfr, hlo, hce, hsl⟩ := hc
  intro hL H locs ls hP hS hl
  subst h1
  exact lv_astore hx hb hd hl (by rw [← hL]; exact hk) rfl (fun ls' h' => n1 (by rw [List.length_set]; exact hL) H locs ls' hP hS (lvl_store (v := .inr x) h'))
theorem j_iinc (hc : Cx Γ own cc d) {k : Nat} {n : Int} {x : Int32} {L1 : List (Option PV)} (v : Int32) (hd : decode cc pc = .ok (.iinc k n, 3)) (hk : L[k]? = some (some (.inl x))) (hv : x + Int32.ofInt n = v) (h1 : L.set k (some (.inl v)) = L1) (n1 : J Γ (pc + 3) L1 st σ) : J Γ pc L st σ := by
  obtain ⟨p, l, e, R, s, m, args, below, meth, c, D, K, ad, A, nL, cells, slots, Q⟩ := Γ
  obtain ⟨hx, hb, hml, hown, hts, hK, hA, hfr, hlo, hce, hsl⟩ := hc
  intro hL H locs ls hP hS hl
  subst h1
  have hkl : k < L.length := (List.getElem?_eq_some_iff.mp hk).1
  have hm := lvl_mem (ad := ad) (b := 0) hk
  rw [Nat.zero_add] at hm
  obtain ⟨i, hi⟩ := List.getElem?_of_mem hm
  exact lv_iinc hx hb hd hl hi hv (by rw [← hL]; exact hkl) rfl (fun ls' h' => n1 (by rw [List.length_set]; exact hL) H locs ls' hP hS (lvl_store (v := .inl v) h'))
theorem j_iadd (hc : Cx Γ own cc d) {x y : Int32} (v : Int32) (hd : decode cc pc = .ok (.iadd, 1)) (hv : x + y = v) (n1 : J Γ (pc + 1) L (.inl v :: st) σ) : J Γ pc L (.inl y :: .inl x :: st) σ := by
  obtain ⟨p, l, e, R, s, m, args, below, meth, c, D, K, ad, A, nL, cells, slots, Q⟩ := Γ
  obtain ⟨hx, hb, hml, hown, hts, hK, hA, hfr, hlo, hce, hsl⟩ := hc
  intro hL H locs ls hP hS hl
  subst hv
  exact lv_iadd hx hb hd (n1 hL H locs ls hP hS hl)
theorem j_isub (hc : Cx Γ own cc d) {x y : Int32} (v : Int32) (hd : decode cc pc = .ok (.isub, 1)) (hv : x - y = v) (n1 : J Γ (pc + 1) L (.inl v :: st) σ) : J Γ pc L (.inl y :: .inl x :: st) σ := by
  obtain ⟨p, l, e, R, s, m, args, below, meth, c, D, K, ad, A, nL, cells, slots, Q⟩ := Γ
  obtain ⟨hx, hb, hml, hown, hts, hK, hA, hfr, hlo, hce, hsl⟩ := hc
  intro hL H locs ls hP hS hl
  subst hv
  exact lv_isub hx hb hd (n1 hL H locs ls hP hS hl)
theorem j_imul (hc : Cx Γ own cc d) {x y : Int32} (v : Int32) (hd : decode cc pc = .ok (.imul, 1)) (hv : x * y = v) (n1 : J Γ (pc + 1) L (.inl v :: st) σ) : J Γ pc L (.inl y :: .inl x :: st) σ := by
  obtain ⟨p, l, e, R, s, m, args, below, meth, c, D, K, ad, A, nL, cells, slots, Q⟩ := Γ
  obtain ⟨hx, hb, hml, hown, hts, hK, hA, hfr, hlo, hce, hsl⟩ := hc
  intro hL H locs ls hP hS hl
  subst hv
  exact lv_imul hx hb hd (n1 hL H locs ls hP hS hl)
theorem j_iand (hc : Cx Γ own cc d) {x y : Int32} (v : Int32) (hd : decode cc pc = .ok (.iand, 1)) (hv : x &&& y = v) (n1 : J Γ (pc + 1) L (.inl v :: st) σ) : J Γ pc L (.inl y :: .inl x :: st) σ := by
  obtain ⟨p, l, e, R, s, m, args, below, meth, c, D, K, ad, A, nL, cells, slots, Q⟩ := Γ
  obtain ⟨hx, hb, hml, hown, hts, hK, hA, hfr, hlo, hce, hsl⟩ := hc
  intro hL H locs ls hP hS hl
  subst hv
  exact lv_iand hx hb hd (n1 hL H locs ls hP hS hl)
theorem j_ior (hc : Cx Γ own cc d) {x y : Int32} (v : Int32) (hd : decode cc pc = .ok (.ior, 1)) (hv : x ||| y = v) (n1 : J Γ (pc + 1) L (.inl v :: st) σ) : J Γ pc L (.inl y :: .inl x :: st) σ := by
  obtain ⟨p, l, e, R, s, m, args, below, meth, c, D, K, ad, A, nL, cells, slots, Q⟩ := Γ
  obtain ⟨hx, hb, hml, hown, hts, hK, hA, hfr, hlo, hce, hsl⟩ := hc
  intro hL H locs ls hP hS hl
  subst hv
  exact lv_ior hx hb hd (n1 hL H locs ls hP hS hl)
theorem j_ixor (hc : Cx Γ own cc d) {x y : Int32} (v : Int32) (hd : decode cc pc = .ok (.ixor, 1)) (hv : x ^^^ y = v) (n1 : J Γ (pc + 1) L (.inl v :: st) σ) : J Γ pc L (.inl y :: .inl x :: st) σ := by
  obtain ⟨p, l, e, R, s, m, args, below, meth, c, D, K, ad, A, nL, cells, slots, Q⟩ := Γ
  obtain ⟨hx, hb, hml, hown, hts, hK, hA, hfr, hlo, hce, hsl⟩ := hc
  intro hL H locs ls hP hS hl
  subst hv
  exact lv_ixor hx hb hd (n1 hL H locs ls hP hS hl)
theorem j_ishl (hc : Cx Γ own cc d) {x y : Int32} (v : Int32) (hd : decode cc pc = .ok (.ishl, 1)) (hv : x <<< (y &&& 31) = v) (n1 : J Γ (pc + 1) L (.inl v :: st) σ) : J Γ pc L (.inl y :: .inl x :: st) σ := by
  obtain ⟨p, l, e, R, s, m, args, below, meth, c, D, K, ad, A, nL, cells, slots, Q⟩ := Γ
  obtain ⟨hx, hb, hml, hown, hts, hK, hA, hfr, hlo, hce, hsl⟩ := hc
  intro hL H locs ls hP hS hl
  subst hv
  exact lv_ishl hx hb hd (n1 hL H locs ls hP hS hl)
theorem j_ishr (hc : Cx Γ own cc d) {x y : Int32} (v : Int32) (hd : decode cc pc = .ok (.ishr, 1)) (hv : x >>> (y &&& 31) = v) (n1 : J Γ (pc + 1) L (.inl v :: st) σ) : J Γ pc L (.inl y :: .inl x :: st) σ := by
  obtain ⟨p, l, e, R, s, m, args, below, meth, c, D, K, ad, A, nL, cells, slots, Q⟩ := Γ
  obtain ⟨hx, hb, hml, hown, hts, hK, hA, hfr, hlo, hce, hsl⟩ := hc
  intro hL H locs ls hP hS hl
  subst hv
  exact lv_ishr hx hb hd (n1 hL H locs ls hP hS hl)
theorem j_iushr (hc : Cx Γ own cc d) {x y : Int32} (v : Int32) (hd : decode cc pc = .ok (.iushr, 1)) (hv : (x.toUInt32 >>> (y.toUInt32 &&& Int32.toUInt32 31)).toInt32 = v) (n1 : J Γ (pc + 1) L (.inl v :: st) σ) : J Γ pc L (.inl y :: .inl x :: st) σ := by
  obtain ⟨p, l, e, R, s, m, args, below, meth, c, D, K, ad, A, nL, cells, slots, Q⟩ := Γ
  obtain ⟨hx, hb, hml, hown, hts, hK, hA, hfr, hlo, hce, hsl⟩ := hc
  intro hL H locs ls hP hS hl
  exact lv_iushr hx hb hd hv (n1 hL H locs ls hP hS hl)
theorem j_dup (hc : Cx Γ own cc d) {x : PV} (hd : decode cc pc = .ok (.dup, 1)) (n1 : J Γ (pc + 1) L (x :: x :: st) σ) : J Γ pc L (x :: st) σ := by
  obtain ⟨p, l, e, R, s, m, args, below, meth, c, D, K, ad, A, nL, cells, slots, Q⟩ := Γ
  obtain ⟨hx, hb, hml, hown, hts, hK, hA, hfr, hlo, hce, hsl⟩ := hc
  intro hL H locs ls hP hS hl
  exact lv_dup hx hb hd (lvv_cat ad x) (n1 hL H locs ls hP hS hl)
theorem j_dup2 (hc : Cx Γ own cc d) {x y : PV} (hd : decode cc pc = .ok (.dup2, 1)) (n1 : J Γ (pc + 1) L (x :: y :: x :: y :: st) σ) : J Γ pc L (x :: y :: st) σ := by
  obtain ⟨p, l, e, R, s, m, args, below, meth, c, D, K, ad, A, nL, cells, slots, Q⟩ := Γ
  obtain ⟨hx, hb, hml, hown, hts, hK, hA, hfr, hlo, hce, hsl⟩ := hc
  intro hL H locs ls hP hS hl
  exact lv_dup2_11 hx hb hd (lvv_cat ad x) (lvv_cat ad y) (n1 hL H locs ls hP hS hl)
theorem j_pop (hc : Cx Γ own cc d) {x : PV} (hd : decode cc pc = .ok (.pop, 1)) (n1 : J Γ (pc + 1) L st σ) : J Γ pc L (x :: st) σ := by
  obtain ⟨p, l, e, R, s, m, args, below, meth, c, D, K, ad, A, nL, cells, slots, Q⟩ := Γ
  obtain ⟨hx, hb, hml, hown, hts, hK, hA, hfr, hlo, hce, hsl⟩ := hc
  intro hL H locs ls hP hS hl
  exact lv_pop hx hb hd (lvv_cat ad x) (n1 hL H locs ls hP hS hl)
theorem j_goto (hc : Cx Γ own cc d) {off : Int} (tgt : Nat) (hd : decode cc pc = .ok (.goto off, 3)) (ht : (pc : Int) + off = (tgt : Int)) (n1 : J Γ tgt L st σ) : J Γ pc L st σ := by
  obtain ⟨p, l, e, R, s, m, args, below, meth, c, D, K, ad, A, nL, cells, slots, Q⟩ := Γ
  obtain ⟨hx, hb, hml, hown, hts, hK, hA, hfr, hlo, hce, hsl⟩ := hc
  intro hL H locs ls hP hS hl
  exact lv_goto hx hb hd ht (n1 hL H locs ls hP hS hl)
theorem j_if_eq (hc : Cx Γ own cc d) {x : Int32} {off : Int} (tgt : Nat) (hd : decode cc pc = .ok (.ifCond .eq off, 3)) (ht : (pc : Int) + off = (tgt : Int)) (kt : x = 0 → J Γ tgt L st σ) (kf : ¬ x = 0 → J Γ (pc + 3) L st σ) : J Γ pc L (.inl x :: st) σ := by
  obtain ⟨p, l, e, R, s, m, args, below, meth, c, D, K, ad, A, nL, cells, slots, Q⟩ := Γ
  obtain ⟨hx, hb, hml, hown, hts, hK, hA, hfr, hlo, hce, hsl⟩ := hc
  intro hL H locs ls hP hS hl
  exact lv_if_eq hx hb hd ht (fun h => kt h hL H locs ls hP hS hl) (fun h => kf h hL H locs ls hP hS hl)
theorem j_icmp_eq (hc : Cx Γ own cc d) {x y : Int32} {off : Int} (tgt : Nat) (hd : decode cc pc = .ok (.if_icmp .eq off, 3)) (ht : (pc : Int) + off = (tgt : Int)) (kt : x = y → J Γ tgt L st σ) (kf : ¬ x = y → J Γ (pc + 3) L st σ) : J Γ pc L (.inl y :: .inl x :: st) σ := by
  obtain ⟨p, l, e, R, s, m, args, below, meth, c, D, K, ad, A, nL, cells, slots, Q⟩ := Γ
  obtain ⟨hx, hb, hml, hown, hts, hK, hA, hfr, hlo, hce, hsl⟩ := hc
  intro hL H locs ls hP hS hl
  exact lv_icmp_eq hx hb hd ht (fun h => kt h hL H locs ls hP hS hl) (fun h => kf h hL H locs ls hP hS hl)
theorem j_if_ne (hc : Cx Γ own cc d) {x : Int32} {off : Int} (tgt : Nat) (hd : decode cc pc = .ok (.ifCond .ne off, 3)) (ht : (pc : Int) + off = (tgt : Int)) (kt : ¬ x = 0 → J Γ tgt L st σ) (kf : x = 0 → J Γ (pc + 3) L st σ) : J Γ pc L (.inl x :: st) σ := by
  obtain ⟨p, l, e, R, s, m, args, below, meth, c, D, K, ad, A, nL, cells, slots, Q⟩ := Γ
  obtain ⟨hx, hb, hml, hown, hts, hK, hA, hfr, hlo, hce, hsl⟩ := hc
  intro hL H locs ls hP hS hl
  exact lv_if_ne hx hb hd ht (fun h => kt h hL H locs ls hP hS hl) (fun h => kf h hL H locs ls hP hS hl)
theorem j_icmp_ne (hc : Cx Γ own cc d) {x y : Int32} {off : Int} (tgt : Nat) (hd : decode cc pc = .ok (.if_icmp .ne off, 3)) (ht : (pc : Int) + off = (tgt : Int)) (kt : ¬ x = y → J Γ tgt L st σ) (kf : x = y → J Γ (pc + 3) L st σ) : J Γ pc L (.inl y :: .inl x :: st) σ := by
  obtain ⟨p, l, e, R, s, m, args, below, meth, c, D, K, ad, A, nL, cells, slots, Q⟩ := Γ
  obtain ⟨hx, hb, hml, hown, hts, hK, hA, hfr, hlo, hce, hsl⟩ := hc
  intro hL H locs ls hP hS hl
  exact lv_icmp_ne hx hb hd ht (fun h => kt h hL H locs ls hP hS hl) (fun h => kf h hL H locs ls hP hS hl)
theorem j_if_lt (hc : Cx Γ own cc d) {x : Int32} {off : Int} (tgt : Nat) (hd : decode cc pc = .ok (.ifCond .lt off, 3)) (ht : (pc : Int) + off = (tgt : Int)) (kt : x < 0 → J Γ tgt L st σ) (kf : ¬ x < 0 → J Γ (pc + 3) L st σ) : J Γ pc L (.inl x :: st) σ := by
  obtain ⟨p, l, e, R, s, m, args, below, meth, c, D, K, ad, A, nL, cells, slots, Q⟩ := Γ
  obtain ⟨hx, hb, hml, hown, hts, hK, hA, hfr, hlo, hce, hsl⟩ := hc
  intro hL H locs ls hP hS hl
  exact lv_if_lt hx hb hd ht (fun h => kt h hL H locs ls hP hS hl) (fun h => kf h hL H locs ls hP hS hl)
theorem j_icmp_lt (hc : Cx Γ own cc d) {x y : Int32} {off : Int} (tgt : Nat) (hd : decode cc pc = .ok (.if_icmp .lt off, 3)) (ht : (pc : Int) + off = (tgt : Int)) (kt : x < y → J Γ tgt L st σ) (kf : ¬ x < y → J Γ (pc + 3) L st σ) : J Γ pc L (.inl y :: .inl x :: st) σ := by
  obtain ⟨p, l, e, R, s, m, args, below, meth, c, D, K, ad, A, nL, cells, slots, Q⟩ := Γ
  obtain ⟨hx, hb, hml, hown, hts, hK, hA, hfr, hlo, hce, hsl⟩ := hc
  intro hL H locs ls hP hS hl
  exact lv_icmp_lt hx hb hd ht (fun h => kt h hL H locs ls hP hS hl) (fun h => kf h hL H locs ls hP hS hl)
theorem j_if_ge (hc : Cx Γ own cc d) {x : Int32} {off : Int} (tgt : Nat) (hd : decode cc pc = .ok (.ifCond .ge off, 3)) (ht : (pc : Int) + off = (tgt : Int)) (kt : 0 ≤ x → J Γ tgt L st σ) (kf : ¬ 0 ≤ x → J Γ (pc + 3) L st σ) : J Γ pc L (.inl x :: st) σ := by
  obtain ⟨p, l, e, R, s, m, args, below, meth, c, D, K, ad, A, nL, cells, slots, Q⟩ := Γ
  obtain ⟨hx, hb, hml, hown, hts, hK, hA, hfr, hlo, hce, hsl⟩ := hc
  intro hL H locs ls hP hS hl
  exact lv_if_ge hx hb hd ht (fun h => kt h hL H locs ls hP hS hl) (fun h => kf h hL H locs ls hP hS hl)
theorem j_icmp_ge (hc : Cx Γ own cc d) {x y : Int32} {off : Int} (tgt : Nat) (hd : decode cc pc = .ok (.if_icmp .ge off, 3)) (ht : (pc : Int) + off = (tgt : Int)) (kt : y ≤ x → J Γ tgt L st σ) (kf : ¬ y ≤ x → J Γ (pc + 3) L st σ) : J Γ pc L (.inl y :: .inl x :: st) σ := by
  obtain ⟨p, l, e, R, s, m, args, below, meth, c, D, K, ad, A, nL, cells, slots, Q⟩ := Γ
  obtain ⟨hx, hb, hml, hown, hts, hK, hA, hfr, hlo, hce, hsl⟩ := hc
  intro hL H locs ls hP hS hl
  exact lv_icmp_ge hx hb hd ht (fun h => kt h hL H locs ls hP hS hl) (fun h => kf h hL H locs ls hP hS hl)
theorem j_if_gt (hc : Cx Γ own cc d) {x : Int32} {off : Int} (tgt : Nat) (hd : decode cc pc = .ok (.ifCond .gt off, 3)) (ht : (pc : Int) + off = (tgt : Int)) (kt : 0 < x → J Γ tgt L st σ) (kf : ¬ 0 < x → J Γ (pc + 3) L st σ) : J Γ pc L (.inl x :: st) σ := by
  obtain ⟨p, l, e, R, s, m, args, below, meth, c, D, K, ad, A, nL, cells, slots, Q⟩ := Γ
  obtain ⟨hx, hb, hml, hown, hts, hK, hA, hfr, hlo, hce, hsl⟩ := hc
  intro hL H locs ls hP hS hl
  exact lv_if_gt hx hb hd ht (fun h => kt h hL H locs ls hP hS hl) (fun h => kf h hL H locs ls hP hS hl)
theorem j_icmp_gt (hc : Cx Γ own cc d) {x y : Int32} {off : Int} (tgt : Nat) (hd : decode cc pc = .ok (.if_icmp .gt off, 3)) (ht : (pc : Int) + off = (tgt : Int)) (kt : y < x → J Γ tgt L st σ) (kf : ¬ y < x → J Γ (pc + 3) L st σ) : J Γ pc L (.inl y :: .inl x :: st) σ := by
  obtain ⟨p, l, e, R, s, m, args, below, meth, c, D, K, ad, A, nL, cells, slots, Q⟩ := Γ
  obtain ⟨hx, hb, hml, hown, hts, hK, hA, hfr, hlo, hce, hsl⟩ := hc
  intro hL H locs ls hP hS hl
  exact lv_icmp_gt hx hb hd ht (fun h => kt h hL H locs ls hP hS hl) (fun h => kf h hL H locs ls hP hS hl)
theorem j_if_le (hc : Cx Γ own cc d) {x : Int32} {off : Int} (tgt : Nat) (hd : decode cc pc = .ok (.ifCond .le off, 3)) (ht : (pc : Int) + off = (tgt : Int)) (kt : x ≤ 0 → J Γ tgt L st σ) (kf : ¬ x ≤ 0 → J Γ (pc + 3) L st σ) : J Γ pc L (.inl x :: st) σ := by
  obtain ⟨p, l, e, R, s, m, args, below, meth, c, D, K, ad, A, nL, cells, slots, Q⟩ := Γ
  obtain ⟨hx, hb, hml, hown, hts, hK, hA, hfr, hlo, hce, hsl⟩ := hc
  intro hL H locs ls hP hS hl
  exact lv_if_le hx hb hd ht (fun h => kt h hL H locs ls hP hS hl) (fun h => kf h hL H locs ls hP hS hl)
theorem j_icmp_le (hc : Cx Γ own cc d) {x y : Int32} {off : Int} (tgt : Nat) (hd : decode cc pc = .ok (.if_icmp .le off, 3)) (ht : (pc : Int) + off = (tgt : Int)) (kt : x ≤ y → J Γ tgt L st σ) (kf : ¬ x ≤ y → J Γ (pc + 3) L st σ) : J Γ pc L (.inl y :: .inl x :: st) σ := by
  obtain ⟨p, l, e, R, s, m, args, below, meth, c, D, K, ad, A, nL, cells, slots, Q⟩ := Γ
  obtain ⟨hx, hb, hml, hown, hts, hK, hA, hfr, hlo, hce, hsl⟩ := hc
  intro hL H locs ls hP hS hl
  exact lv_icmp_le hx hb hd ht (fun h => kt h hL H locs ls hP hS hl) (fun h => kf h hL H locs ls hP hS hl)
theorem j_tableIn (hc : Cx Γ own cc d) {dflt lo hi : Int} {offs : Array Int} {len : Nat} {x : Int32} {off : Int} (tgt : Nat) (hd : decode cc pc = .ok (.tableswitch dflt lo hi offs, len)) (h1 : ¬ x.toInt < lo) (h2 : ¬ hi < x.toInt) (ho : offs[(x.toInt - lo).toNat]? = some off) (ht : (pc : Int) + off = (tgt : Int)) (n1 : J Γ tgt L st σ) : J Γ pc L (.inl x :: st) σ := by
  obtain ⟨p, l, e, R, s, m, args, below, meth, c, D, K, ad, A, nL, cells, slots, Q⟩ := Γ
  obtain ⟨hx, hb, hml, hown, hts, hK, hA, hfr, hlo, hce, hsl⟩ := hc
  intro hL H locs ls hP hS hl
  exact lv_tableIn hx hb hd h1 h2 ho ht (n1 hL H locs ls hP hS hl)
theorem j_tableOut (hc : Cx Γ own cc d) {dflt lo hi : Int} {offs : Array Int} {len : Nat} {x : Int32} (tgt : Nat) (hd : decode cc pc = .ok (.tableswitch dflt lo hi offs, len)) (h : x.toInt < lo ∨ hi < x.toInt) (ht : (pc : Int) + dflt = (tgt : Int)) (n1 : J Γ tgt L st σ) : J Γ pc L (.inl x :: st) σ := by
  obtain ⟨p, l, e, R, s, m, args, below, meth, c, D, K, ad, A, nL, cells, slots, Q⟩ := Γ
  obtain ⟨hx, hb, hml, hown, hts, hK, hA, hfr, hlo, hce, hsl⟩ := hc
  intro hL H locs ls hP hS hl
  exact lv_tableOut hx hb hd h ht (n1 hL H locs ls hP hS hl)
def Fld (own : String) (index ci k : Nat) (fin : Bool) (ty : FieldType) : Prop := ∃ (C : String) (T : u_T) (N : Nat) (tyX : Nat → FieldType), vwCl[ci]? = some (C, T, N) ∧ k < N ∧ (∀ w ∈ u_ws C T N, w ∈ TT) ∧ (∀ k, k < N → parseFieldDescriptor (T k).2.2.1 = some (tyX k)) ∧ (∀ a, a < N → ∀ b, b < N → a ≠ b → (T a).2.1 ≠ (T b).2.1) ∧ (T k).1 = C ∧ (Cond.fieldLink own index C (T k).2.1 (T k).2.2.1 ∈ TT ∨ ∃ host, (own, index, C, (T k).2.1, (T k).2.2.1, host) ∈ nestF) ∧ (T k).2.2.2 = fin ∧ tyX k = ty
theorem j_getI (hc : Cx Γ own cc d) {q ci k index : Nat} {fin : Bool} {ty : FieldType} {fs : List (Option Nat)} (hf : Fld own index ci k fin ty) (hd : decode cc pc = .ok (.getfield index, 3)) (hq : q < 68) (hy : lay q = .inl (ci, fs)) (hk : fs[k]? = some none) (n1 : J Γ (pc + 3) L (.inl (σ q k) :: st) σ) : J Γ pc L (.inr q :: st) σ := by
  obtain ⟨p, l, e, R, s, m, args, below, meth, c, D, K, ad, A, nL, cells, slots, Q⟩ := Γ
  obtain ⟨hx, hb, hml, hown, hts, hK, hA, hfr, hlo, hce, hsl⟩ := hc
  intro hL H locs ls hP hS hl
  obtain ⟨C, T, N, tyX, f1, f2, f3, f4, f5, f6, f7, -, -⟩ := hf
  have hw : (wld K ad σ)[q]? = some (ad q, .inr (ci, fv ad σ q 0 fs)) := by rw [wld_get hq, cel_obj hy]
  rcases f7 with f7 | ⟨host, f7⟩
  · exact va_get (v := .int (σ q k)) hx hb hts f3 hown hK.1 hP q hw f1 k f2 (hts _ f7) (fun x h => by rw [f6] at h; exact h) (by have h := fv_int (ad := ad) (σ := σ) (p := q) (b := 0) hk; rw [Nat.zero_add] at h; exact h) hd (n1 hL H locs ls hP hS hl)
  · exact va_getN (v := .int (σ q k)) hx hb hts f3 hown hK.1 hP q hw f1 k f2 (va_Nw.use rfl (hK.2.1.1 _ f7)) (fun x h => by rw [f6] at h; exact h) (by have h := fv_int (ad := ad) (σ := σ) (p := q) (b := 0) hk; rw [Nat.zero_add] at h; exact h) hd (n1 hL H locs ls hP hS hl)
theorem j_getR (hc : Cx Γ own cc d) {q ci k index : Nat} {fin : Bool} {ty : FieldType} {fs : List (Option Nat)} {r : Nat} (hf : Fld own index ci k fin ty) (hd : decode cc pc = .ok (.getfield index, 3)) (hq : q < 68) (hy : lay q = .inl (ci, fs)) (hk : fs[k]? = some (some r)) (n1 : J Γ (pc + 3) L (.inr r :: st) σ) : J Γ pc L (.inr q :: st) σ := by
  obtain ⟨p, l, e, R, s, m, args, below, meth, c, D, K, ad, A, nL, cells, slots, Q⟩ := Γ
  obtain ⟨hx, hb, hml, hown, hts, hK, hA, hfr, hlo, hce, hsl⟩ := hc
  intro hL H locs ls hP hS hl
  obtain ⟨C, T, N, tyX, f1, f2, f3, f4, f5, f6, f7, -, -⟩ := hf
  have hw : (wld K ad σ)[q]? = some (ad q, .inr (ci, fv ad σ q 0 fs)) := by rw [wld_get hq, cel_obj hy]
  rcases f7 with f7 | ⟨host, f7⟩
  · exact va_get (v := .ref (ad r)) hx hb hts f3 hown hK.1 hP q hw f1 k f2 (hts _ f7) (fun x h => by rw [f6] at h; exact h) (fv_ref hk) hd (n1 hL H locs ls hP hS hl)
  · exact va_getN (v := .ref (ad r)) hx hb hts f3 hown hK.1 hP q hw f1 k f2 (va_Nw.use rfl (hK.2.1.1 _ f7)) (fun x h => by rw [f6] at h; exact h) (fv_ref hk) hd (n1 hL H locs ls hP hS hl)
theorem j_putI (hc : Cx Γ own cc d) {q ci k index : Nat} {v : Int32} {fs : List (Option Nat)} (hf : Fld own index ci k false .int) (hd : decode cc pc = .ok (.putfield index, 3)) (hq : q < 68) (hy : lay q = .inl (ci, fs)) (hk : fs[k]? = some none) (n1 : J Γ (pc + 3) L st (s2 σ q k v)) : J Γ pc L (.inl v :: .inr q :: st) σ := by
  obtain ⟨p, l, e, R, s, m, args, below, meth, c, D, K, ad, A, nL, cells, slots, Q⟩ := Γ
  obtain ⟨hx, hb, hml, hown, hts, hK, hA, hfr, hlo, hce, hsl⟩ := hc
  intro hL H locs ls hP hS hl
  obtain ⟨C, T, N, tyX, f1, f2, f3, f4, f5, f6, f7, f8, f9⟩ := hf
  have hw : (wld K ad σ)[q]? = some (ad q, .inr (ci, fv ad σ q 0 fs)) := by rw [wld_get hq, cel_obj hy]
  have hD : va_D A (wld K ad σ) := wld_D hK.2.2 hA
  have hlk : k < (fv ad σ q 0 fs).length := by rw [fv_len]; exact (List.getElem?_eq_some_iff.mp hk).1
  have he : (wld K ad σ).set q (ad q, .inr (ci, (fv ad σ q 0 fs).set k (.int v))) = wld K ad (s2 σ q k v) := wld_set (by rw [cel_obj hy, fv_set hk]) (fun j hj => by simp [s2, hj])
  have hty : parseFieldDescriptor (T k).2.2.1 = some .int := by rw [f4 k f2, f9]
  rcases f7 with f7 | ⟨host, f7⟩
  · exact va_put (v := .int v) (ty := .int) hx hb hts f3 tyX f4 f5 hown hK.1 hP hD hS q hw f1 k f2 (hts _ f7) (fun x h => by rw [f6] at h; exact h) f8 hty rfl rfl hlk hd (fun H1 locs1 hP1 _ hS1 => n1 hL H1 locs1 ls (by rw [he] at hP1; exact hP1) hS1 hl)
  · exact va_putN (v := .int v) (ty := .int) hx hb hts f3 tyX f4 f5 hown hK.1 hP hD hS q hw f1 k f2 (va_Nw.use rfl (hK.2.1.1 _ f7)) (fun x h => by rw [f6] at h; exact h) f8 hty rfl rfl hlk hd (fun H1 locs1 hP1 _ hS1 => n1 hL H1 locs1 ls (by rw [he] at hP1; exact hP1) hS1 hl)
theorem j_iald (hc : Cx Γ own cc d) {q n k : Nat} {i : Int32} (hd : decode cc pc = .ok (.iaload, 1)) (hq : q < 68) (hy : lay q = .inr (0, n)) (hi : i = nI k) (hk : k < n) (hn : n < 2 ^ 31) (n1 : J Γ (pc + 1) L (.inl (σ q k) :: st) σ) : J Γ pc L (.inl i :: .inr q :: st) σ := by
  obtain ⟨p, l, e, R, s, m, args, below, meth, c, D, K, ad, A, nL, cells, slots, Q⟩ := Γ
  obtain ⟨hx, hb, hml, hown, hts, hK, hA, hfr, hlo, hce, hsl⟩ := hc
  intro hL H locs ls hP hS hl
  subst hi
  have hw : (wld K ad σ)[q]? = some (ad q, .inl (K.1, n, .inl (σ q))) := by rw [wld_get hq, cel_int hy]
  have h := n1 hL H locs ls hP hS hl
  rw [← nI_clamp (n := k) (by omega)] at h
  exact va_iald hx hb hK.1 hP q 0 hw rfl (vp_in_nI hk hn) hd h
theorem j_bald (hc : Cx Γ own cc d) {q n k : Nat} {i : Int32} (hd : decode cc pc = .ok (.baload, 1)) (hq : q < 68) (hy : lay q = .inr (1, n)) (hi : i = nI k) (hk : k < n) (hn : n < 2 ^ 31) (n1 : J Γ (pc + 1) L (.inl (σ q k) :: st) σ) : J Γ pc L (.inl i :: .inr q :: st) σ := by
  obtain ⟨p, l, e, R, s, m, args, below, meth, c, D, K, ad, A, nL, cells, slots, Q⟩ := Γ
  obtain ⟨hx, hb, hml, hown, hts, hK, hA, hfr, hlo, hce, hsl⟩ := hc
  intro hL H locs ls hP hS hl
  subst hi
  have hw : (wld K ad σ)[q]? = some (ad q, .inl (K.2.1, n, .inl (σ q))) := by rw [wld_get hq, cel_bool hy]
  have h := n1 hL H locs ls hP hS hl
  rw [← nI_clamp (n := k) (by omega)] at h
  exact va_zald hx hb hK.1 hP q 1 hw rfl (vp_in_nI hk hn) hd h
theorem j_aald (hc : Cx Γ own cc d) {q n k : Nat} {i : Int32} (hd : decode cc pc = .ok (.aaload, 1)) (hq : q < 68) (hy : lay q = .inr (2, n)) (hi : i = nI k) (hk : k < n) (hn : n < 2 ^ 31) (n1 : J Γ (pc + 1) L (.inr (15 + 7 * k) :: st) σ) : J Γ pc L (.inl i :: .inr q :: st) σ := by
  obtain ⟨p, l, e, R, s, m, args, below, meth, c, D, K, ad, A, nL, cells, slots, Q⟩ := Γ
  obtain ⟨hx, hb, hml, hown, hts, hK, hA, hfr, hlo, hce, hsl⟩ := hc
  intro hL H locs ls hP hS hl
  subst hi
  have hw : (wld K ad σ)[q]? = some (ad q, .inl (K.2.2.1, n, .inr (.inr (.inr (.inr (fun j => some (ad (15 + 7 * j)))))))) := by rw [wld_get hq, cel_refs hy]
  have h := n1 hL H locs ls hP hS hl
  rw [← nI_clamp (n := k) (by omega)] at h
  exact va_aldq hx hb hK.1 hP q 2 hw rfl (vp_in_nI hk hn) hd h
theorem j_iast (hc : Cx Γ own cc d) {q n k : Nat} {i v : Int32} (hd : decode cc pc = .ok (.iastore, 1)) (hq : q < 68) (hy : lay q = .inr (0, n)) (hi : i = nI k) (hk : k < n) (hn : n < 2 ^ 31) (n1 : J Γ (pc + 1) L st (s2 σ q k v)) : J Γ pc L (.inl v :: .inl i :: .inr q :: st) σ := by
  obtain ⟨p, l, e, R, s, m, args, below, meth, c, D, K, ad, A, nL, cells, slots, Q⟩ := Γ
  obtain ⟨hx, hb, hml, hown, hts, hK, hA, hfr, hlo, hce, hsl⟩ := hc
  intro hL H locs ls hP hS hl
  subst hi
  have hw : (wld K ad σ)[q]? = some (ad q, .inl (K.1, n, .inl (σ q))) := by rw [wld_get hq, cel_int hy]
  have hD : va_D A (wld K ad σ) := wld_D hK.2.2 hA
  have he : (wld K ad σ).set q (ad q, .inl (K.1, n, .inl (upd (σ q) (nI k).toNatClampNeg v))) = wld K ad (s2 σ q k v) := wld_set (by rw [cel_int hy, nI_clamp (n := k) (by omega)]; simp [s2]) (fun j hj => by simp [s2, hj])
  exact va_iast hx hb hK.1 hP hD hS q 0 hw rfl (vp_in_nI hk hn) hd (fun H1 locs1 hP1 _ hS1 => n1 hL H1 locs1 ls (by rw [he] at hP1; exact hP1) hS1 hl)
theorem j_bast (hc : Cx Γ own cc d) {q n k : Nat} {i v : Int32} (hd : decode cc pc = .ok (.bastore, 1)) (hq : q < 68) (hy : lay q = .inr (1, n)) (hi : i = nI k) (hk : k < n) (hn : n < 2 ^ 31) (hv : vp_nar .boolean v = v) (n1 : J Γ (pc + 1) L st (s2 σ q k v)) : J Γ pc L (.inl v :: .inl i :: .inr q :: st) σ := by
  obtain ⟨p, l, e, R, s, m, args, below, meth, c, D, K, ad, A, nL, cells, slots, Q⟩ := Γ
  obtain ⟨hx, hb, hml, hown, hts, hK, hA, hfr, hlo, hce, hsl⟩ := hc
  intro hL H locs ls hP hS hl
  subst hi
  have hw : (wld K ad σ)[q]? = some (ad q, .inl (K.2.1, n, .inl (σ q))) := by rw [wld_get hq, cel_bool hy]
  have hD : va_D A (wld K ad σ) := wld_D hK.2.2 hA
  have he : (wld K ad σ).set q (ad q, .inl (K.2.1, n, .inl (upd (σ q) (nI k).toNatClampNeg (vp_nar .boolean v)))) = wld K ad (s2 σ q k v) := wld_set (by rw [cel_bool hy, nI_clamp (n := k) (by omega), hv]; simp [s2]) (fun j hj => by simp [s2, hj])
  exact va_zast hx hb hK.1 hP hD hS q 1 hw rfl (vp_in_nI hk hn) hd (fun H1 locs1 hP1 _ hS1 => n1 hL H1 locs1 ls (by rw [he] at hP1; exact hP1) hS1 hl)
theorem j_alen (hc : Cx Γ own cc d) {q n : Nat} (hd : decode cc pc = .ok (.arraylength, 1)) (hq : q < 68) (hy : lay q = .inr (0, n)) (n1 : J Γ (pc + 1) L (.inl (nI n) :: st) σ) : J Γ pc L (.inr q :: st) σ := by
  obtain ⟨p, l, e, R, s, m, args, below, meth, c, D, K, ad, A, nL, cells, slots, Q⟩ := Γ
  obtain ⟨hx, hb, hml, hown, hts, hK, hA, hfr, hlo, hce, hsl⟩ := hc
  intro hL H locs ls hP hS hl
  have hw : (wld K ad σ)[q]? = some (ad q, .inl (K.1, n, .inl (σ q))) := by rw [wld_get hq, cel_int hy]
  exact va_alen hx hb hK.1 hP q 0 hw (ty := .int) rfl rfl hd (n1 hL H locs ls hP hS hl)
/-- System.arraycopy of ints -/
theorem j_copy (hc : Cx Γ own cc d) {q0 q1 k0 k1 sp dp n index : Nat} {isp idp inn : Int32} (hw1 : Cond.methodLink own index arraycopyName ∈ TT) (hw2 : Cond.native arraycopyName ∈ TT) (hw3 : Cond.static arraycopyName ∈ TT) (hw4 : Cond.initialized "java/lang/System" ∈ TT) (hd : decode cc pc = .ok (.invokestatic index, 3)) (hq0 : q0 < 68) (hq1 : q1 < 68) (hy0 : lay q0 = .inr (0, k0)) (hy1 : lay q1 = .inr (0, k1)) (h1 : isp = nI sp) (h2 : idp = nI dp) (h3 : inn = nI n) (h4 : sp + n ≤ k0) (h5 : dp + n ≤ k1) (hk0 : k0 < 2 ^ 31) (hk1 : k1 < 2 ^ 31) (hst : st.length ≤ 8) (hdd : 1 ≤ d) (n1 : J Γ (pc + 3) L st (sR σ q1 (va_cpy (σ q0) (σ q1) sp dp n))) : J Γ pc L (.inl inn :: .inl idp :: .inr q1 :: .inl isp :: .inr q0 :: st) σ := by
  obtain ⟨p, l, e, R, s, m, args, below, meth, c, D, K, ad, A, nL, cells, slots, Q⟩ := Γ
  obtain ⟨hx, hb, hml, hown, hts, hK, hA, hfr, hlo, hce, hsl⟩ := hc
  intro hL H locs ls hP hS hl
  subst h1; subst h2; subst h3
  have hw0 : (wld K ad σ)[q0]? = some (ad q0, .inl (K.1, k0, .inl (σ q0))) := by rw [wld_get hq0, cel_int hy0]
  have hwA : (wld K ad σ)[q1]? = some (ad q1, .inl (K.1, k1, .inl (σ q1))) := by rw [wld_get hq1, cel_int hy1]
  have hD : va_D A (wld K ad σ) := wld_D hK.2.2 hA
  have e1 := nI_clamp (n := sp) (by omega)
  have e2 := nI_clamp (n := dp) (by omega)
  have e3 := nI_clamp (n := n) (by omega)
  have he : (wld K ad σ).set q1 (ad q1, .inl (K.1, k1, .inl (va_cpy (σ q0) (σ q1) (nI sp).toNatClampNeg (nI dp).toNatClampNeg (nI n).toNatClampNeg))) = wld K ad (sR σ q1 (va_cpy (σ q0) (σ q1) sp dp n)) := wld_set (by rw [cel_int hy1, e1, e2, e3]; simp [sR]) (fun j hj => by simp [sR, hj])
  have hnf : nativeFrameWords "java/lang/System" "arraycopy" 5 + 11 ≤ 30 := by decide +kernel
  exact va_copyi hx hb (by rw [hml]; exact hl.1.symm) hown (hts _ hw1) (hts _ hw2) (hts _ hw3) (hts _ hw4) hK.1 hP hD hS q0 q1 0 0 hw0 hwA rfl rfl rfl (nI_pos (n := sp) (by omega)) (nI_pos (n := dp) (by omega)) (nI_pos (n := n) (by omega)) (by rw [e1, e3]; exact h4) (by rw [e2, e3]; exact h5) (fun i _ => rfl) (by omega) (by rw [cat_sum]; omega) hd (fun H1 locs1 hP1 _ hS1 => n1 hL H1 locs1 ls (by rw [he] at hP1; exact hP1) hS1 hl)
/-- Math.max -/
theorem j_max (hc : Cx Γ own cc d) {index : Nat} {x y : Int32} (hw1 : Cond.methodLink own index Lib.Math.max.name ∈ TT) (hw2 : Cond.static Lib.Math.max.name ∈ TT) (hw3 : Cond.initialized "java/lang/Math" ∈ TT) (hw4 : Cond.code Lib.Math.max.name Lib.Math.max.code 2 (some .int) ∈ TT) (hd : decode cc pc = .ok (.invokestatic index, 3)) (hst : st.length ≤ 8) (hdd : 1 ≤ d) (n1 : J Γ (pc + 3) L (.inl (if x < y then y else x) :: st) σ) : J Γ pc L (.inl y :: .inl x :: st) σ := by
  obtain ⟨p, l, e, R, s, m, args, below, meth, c, D, K, ad, A, nL, cells, slots, Q⟩ := Γ
  obtain ⟨hx, hb, hml, hown, hts, hK, hA, hfr, hlo, hce, hsl⟩ := hc
  intro hL H locs ls hP hS hl
  exact va_mmax hx hb (by rw [hml]; exact hl.1.symm) hown (hts _ hw1) (hts _ hw2) (hts _ hw3) (hts _ hw4) (by omega) (by rw [cat_sum]; omega) hce hsl hd (n1 hL H locs ls hP hS hl)
theorem j_iret {rt : FieldType} {post : Option PV → Sg → Prop} {v : Int32} (hc : Cx Γ own cc d) (hr : Rt Γ (some rt) post) (hd : decode cc pc = .ok (.ireturn, 1)) (hn : narrow rt (.int v) = .int v) (hp : post (some (.inl v)) σ) : J Γ pc L [.inl v] σ := by
  obtain ⟨p, l, e, R, s, m, args, below, meth, c, D, K, ad, A, nL, cells, slots, Q⟩ := Γ
  obtain ⟨hx, hb, hml, hown, hts, hK, hA, hfr, hlo, hce, hsl⟩ := hc
  intro hL H locs ls hP hS hl
  obtain ⟨r1, r2, rfl, rfl, rfl, rfl⟩ := hr
  exact W.zret hx hb r1 hn (fun t ht hW => ⟨⟨some (.inl v), σ, rfl, hp, by rw [ht]; exact hP⟩, hS.F ht⟩) hS.2.2 hd r2
theorem j_ret {post : Option PV → Sg → Prop} (hc : Cx Γ own cc d) (hr : Rt Γ none post) (hd : decode cc pc = .ok (.return_, 1)) (hp : post none σ) : J Γ pc L [] σ := by
  obtain ⟨p, l, e, R, s, m, args, below, meth, c, D, K, ad, A, nL, cells, slots, Q⟩ := Γ
  obtain ⟨hx, hb, hml, hown, hts, hK, hA, hfr, hlo, hce, hsl⟩ := hc
  intro hL H locs ls hP hS hl
  obtain ⟨r1, r2, rfl, rfl, rfl, rfl⟩ := hr
  exact W.vret hx hb r1 (fun t ht hW => ⟨⟨none, σ, rfl, hp, by rw [ht]; exact hP⟩, hS.F ht⟩) hS.2.2 hd r2
end Rules
/-- behind a call -/
theorem jw_call {p : Program} {l : Launch} {e : Env} {R : Room} {s : State} {m : MethodId} {args : Array Value} {below : List Frame} {meth : Method} {c : Code} {H : Heap} {locs : List Loc} {cells slots : Nat} {Q : State → Prop} {D : va_G} {K : CK} {ad : Nat → Nat} {A : Nat → Prop} {post : Option PV → Sg → Prop} {a : Array Value} {pc : Nat} {ls : Array Slot} {st0 : List Value} {rest : List PV}
    (hr : va_Run p l e R s m args below meth c H locs cells slots 0 0 (F0 m pc ls st0) (rest.map (lvv ad)) (Qp D K ad post a) (adS ad)) (hS : va_S A s.heap H locs) (hA : ∀ i, i < 68 → A (ad i))
    (kk : ∀ (r : Option PV) (σ' : Sg), post r σ' → ∀ (H1 : Heap) (locs1 : List Loc), va_P D vwCl (wld K ad σ') H1 → va_S A s.heap H1 locs1 → W p l e R s m args below meth c H1 locs1 cells slots Q (F0 m (pc + 3) ls ((r.toList ++ rest).map (lvv ad)))) : W p l e R s m args below meth c H locs cells slots Q (F0 m pc ls st0) := by
  intro T hT X
  obtain ⟨v, st₀, t, T', Lx, h0, X', hL, e1, e2, ⟨⟨r, σ', hv, hp, hb⟩, hz, hk⟩, stp⟩ := hr T hT X
  cases hv
  rw [h0] at hz hk
  have hAS : ∀ q, adS ad q → A q := fun q hq => by obtain ⟨i, hi, rfl⟩ := hq; exact hA i hi
  obtain ⟨t2, a1, b1⟩ := kk r σ' hp T'.heap (locs ++ Lx) (by rw [e1]; exact hb)
    ⟨Nat.le_trans hS.1 (by rw [e1]; exact hz), fun q h1 h2 => by rw [e1, hk q (Nat.lt_of_lt_of_le h1 hS.1) (fun z => h2 (hAS q z))]; exact hS.2.1 q h1 h2, fun q hq => by
      rcases List.mem_append.mp hq with h | h
      · exact hS.2.2 q h
      · exact hAS _ (hL q h)⟩ T' rfl X'
  refine ⟨t2, stp t2 ?_, b1⟩
  have hst : (Option.map (lvv ad) r).toList ++ rest.map (lvv ad) = (r.toList ++ rest).map (lvv ad) := by cases r <;> simp
  show Steps _ _ _ (T'.setTop { F0 m pc ls st0 with pc := pc + 3, stack := (Option.map (lvv ad) r).toList ++ rest.map (lvv ad) }) _
  rw [hst]
  exact a1
theorem Kx.blind {D : va_G} {K : CK} {ad : Nat → Nat} {σ : Sg} {av : List Value} : FrameBlind (va_Pc av (fun U => va_P D vwCl (wld K ad σ) U.heap ∧ Kx D K ad U)) := fun _ U g mk q => by
  obtain ⟨q0, qP, qK, qN, qI⟩ := q
  exact ⟨q0, qP, va_K.moved (u := U) (Vm.Alike.refl U.vm) qK, Nst.same (u := U) rfl qN, qI⟩
theorem Kx.warm {D : va_G} {K : CK} {ad : Nat → Nat} {s U : State} (hW : s.WarmedH U.vm) (h : Kx D K ad s) : Kx D K ad U := ⟨va_K.moved hW.alike h.1, h.2.1.warm hW, h.2.2⟩
/-- what a call instruction is: kind 0 virtual, 1 static, 2 a nest mate's static; its link, its method -/
def Cw (kind : Nat) (own : String) (index : Nat) (y : MethodName) (bytes : ByteArray) (maxL : Nat) (ret : Option FieldType) (n : Nat) : Prop :=
  (match kind with
    | 0 => Cond.methodLink own index y ∈ TT ∧ Cond.instanceMethod y ∈ TT ∧ Cond.selects y.cls y y ∈ TT
    | 1 => Cond.methodLink own index y ∈ TT ∧ Cond.static y ∈ TT
    | _ => (∃ host, (own, index, y, host) ∈ nestM) ∧ Cond.static y ∈ TT) ∧
  Cond.initialized y.cls ∈ TT ∧ Cond.code y bytes maxL ret ∈ TT ∧ (y.cls ≠ "java/lang/invoke/MethodHandle" ∧ y.cls ≠ "java/lang/invoke/VarHandle" ∧ (parseMethodDescriptor y.desc).map (fun d => d.parameters.length) = some n) ∧ maxL ≤ 19
section Calls1
variable {Γ : Gm} {own : String} {cc : ByteArray} {d pc : Nat} {L : List (Option PV)} {σ : Sg}
theorem j_callV (hc : Cx Γ own cc d) {y : MethodName} {bytes : ByteArray} {maxL n index d' q ci : Nat} {ret : Option FieldType} {as rest st : List PV} {post : Option PV → Sg → Prop} {fs : List (Option Nat)} {T : u_T} {N : Nat} (hw : Cw 0 own index y bytes maxL ret n) (hM : Sp y bytes maxL ret d' (.inr q :: as) σ post) (hd : decode cc pc = .ok (.invokevirtual index, 3)) (hst : st = as.reverse ++ .inr q :: rest) (hn : as.length = n) (hdd : d' + 1 ≤ d) (hrl : rest.length ≤ 8) (hq : q < 68) (hy : lay q = .inl (ci, fs)) (hci : vwCl[ci]? = some (y.cls, T, N)) (n1 : ∀ r σ', post r σ' → J Γ (pc + 3) L (r.toList ++ rest) σ') : J Γ pc L st σ := by
  obtain ⟨⟨w0, w1, w2⟩, w4, w3, w5, w6⟩ := hw
  obtain ⟨p, l, e, R, s, m, args, below, meth, c, D, K, ad, A, nL, cells, slots, Q⟩ := Γ
  obtain ⟨hx, hb, hml, hown, hts, hK, hA, hfr, hlo, hce, hsl⟩ := hc
  intro hL H locs ls hP hS hl
  have hgood : GoodIn TT (Cond.code y bytes maxL ret :: TT) := TT_good (fun w hw => by
    rcases List.mem_cons.mp hw with rfl | h
    · exact w3
    · exact h) (fun w h => h)
  have hroom : d' + 1 ≤ R.frames ∧ 8 + (maxL + 11) + 38 * d' ≤ R.locals := ⟨by omega, by omega⟩
  subst hst
  have hwq : (wld K ad σ)[q]? = some (ad q, .inr (ci, fv ad σ q 0 fs)) := by rw [wld_get hq, cel_obj hy]
  have hrun := va_runV (C := y.cls) (As := as.map (lvv ad)) (rest := rest.map (lvv ad)) (b := ad q) (g := F0 m pc ls ((as.reverse ++ .inr q :: rest).map (lvv ad))) (H := H) (locs := locs) (cells := cells) (slots := slots) (below := below) (meth := meth) (e := e) ⟨hx, hb, hml, hown, hts⟩ (hM l D K ad) ⟨callB_of n hts hgood rfl rfl rfl (hts _ w4) (hts _ w0) w5 hroom, hts _ w1, hts _ w2⟩
    ⟨Kx.blind, va_recv hK.1 hP hci hwq, fun U hU hW => ⟨rfl, by rw [hU]; exact hP, hK.warm hW⟩⟩ rfl (by rw [List.length_map]; exact hn) hl.1 (by simp [lvv]) (lv_room (by rw [cat_sum]; exact hrl)) hd ⟨hce, hsl⟩
  exact jw_call hrun hS hA (fun r σ' hp H1 locs1 hP1 hS1 => n1 r σ' hp hL H1 locs1 ls hP1 hS1 hl)
theorem j_callS (hc : Cx Γ own cc d) {y : MethodName} {bytes : ByteArray} {maxL n index d' : Nat} {ret : Option FieldType} {as rest st : List PV} {post : Option PV → Sg → Prop} (hw : Cw 1 own index y bytes maxL ret n) (hM : Sp y bytes maxL ret d' as σ post) (hd : decode cc pc = .ok (.invokestatic index, 3)) (hst : st = as.reverse ++ rest) (hn : as.length = n) (hdd : d' + 1 ≤ d) (hrl : rest.length ≤ 8) (n1 : ∀ r σ', post r σ' → J Γ (pc + 3) L (r.toList ++ rest) σ') : J Γ pc L st σ := by
  obtain ⟨⟨w0, w1⟩, w4, w3, w5, w6⟩ := hw
  obtain ⟨p, l, e, R, s, m, args, below, meth, c, D, K, ad, A, nL, cells, slots, Q⟩ := Γ
  obtain ⟨hx, hb, hml, hown, hts, hK, hA, hfr, hlo, hce, hsl⟩ := hc
  intro hL H locs ls hP hS hl
  have hgood : GoodIn TT (Cond.code y bytes maxL ret :: TT) := TT_good (fun w hw => by
    rcases List.mem_cons.mp hw with rfl | h
    · exact w3
    · exact h) (fun w h => h)
  have hroom : d' + 1 ≤ R.frames ∧ 8 + (maxL + 11) + 38 * d' ≤ R.locals := ⟨by omega, by omega⟩
  subst hst
  have hrun := va_runS (As := as.map (lvv ad)) (rest := rest.map (lvv ad)) (g := F0 m pc ls ((as.reverse ++ rest).map (lvv ad))) (H := H) (locs := locs) (cells := cells) (slots := slots) (below := below) (meth := meth) (e := e) ⟨hx, hb, hml, hown, hts⟩ (hM l D K ad) ⟨callB_of n hts hgood rfl rfl rfl (hts _ w4) (hts _ w0) w5 hroom, hts _ w1⟩
    ⟨Kx.blind, fun U hU hW => ⟨rfl, by rw [hU]; exact hP, hK.warm hW⟩⟩ rfl (by rw [List.length_map]; exact hn) hl.1 (by simp) (lv_room (by rw [cat_sum]; exact hrl)) hd ⟨hce, hsl⟩
  exact jw_call hrun hS hA (fun r σ' hp H1 locs1 hP1 hS1 => n1 r σ' hp hL H1 locs1 ls hP1 hS1 hl)
theorem j_callSN (hc : Cx Γ own cc d) {y : MethodName} {bytes : ByteArray} {maxL n index d' : Nat} {ret : Option FieldType} {as rest st : List PV} {post : Option PV → Sg → Prop} (hw : Cw 2 own index y bytes maxL ret n) (hM : Sp y bytes maxL ret d' as σ post) (hd : decode cc pc = .ok (.invokestatic index, 3)) (hst : st = as.reverse ++ rest) (hn : as.length = n) (hdd : d' + 1 ≤ d) (hrl : rest.length ≤ 8) (n1 : ∀ r σ', post r σ' → J Γ (pc + 3) L (r.toList ++ rest) σ') : J Γ pc L st σ := by
  obtain ⟨⟨⟨host, w0⟩, w1⟩, w4, w3, w5, w6⟩ := hw
  obtain ⟨p, l, e, R, s, m, args, below, meth, c, D, K, ad, A, nL, cells, slots, Q⟩ := Γ
  obtain ⟨hx, hb, hml, hown, hts, hK, hA, hfr, hlo, hce, hsl⟩ := hc
  intro hL H locs ls hP hS hl
  have hgood : GoodIn TT (Cond.code y bytes maxL ret :: TT) := TT_good (fun w hw => by
    rcases List.mem_cons.mp hw with rfl | h
    · exact w3
    · exact h) (fun w h => h)
  have hroom : d' + 1 ≤ R.frames ∧ 8 + (maxL + 11) + 38 * d' ≤ R.locals := ⟨by omega, by omega⟩
  subst hst
  have hrun := va_runSN (As := as.map (lvv ad)) (rest := rest.map (lvv ad)) (g := F0 m pc ls ((as.reverse ++ rest).map (lvv ad))) (H := H) (locs := locs) (cells := cells) (slots := slots) (below := below) (meth := meth) (e := e) ⟨hx, hb, hml, hown, hts⟩ (hM l D K ad) ⟨va_cnB n hts hgood rfl rfl rfl (hK.2.1.2 _ w0) (hts _ w4) w5 hroom, hts _ w1, trivial⟩
    ⟨Kx.blind, fun U hU hW => ⟨rfl, by rw [hU]; exact hP, hK.warm hW⟩⟩ rfl (by rw [List.length_map]; exact hn) hl.1 (by simp) (lv_room (by rw [cat_sum]; exact hrl)) hd ⟨hce, hsl⟩
  exact jw_call hrun hS hA (fun r σ' hp H1 locs1 hP1 hS1 => n1 r σ' hp hL H1 locs1 ls hP1 hS1 hl)
end Calls1
