-- ===== 50b: the constructors that call none =====
section NewRules2
variable {Γ : Gm} {own : String} {cc : ByteArray} {d pc k n : Nat} {lv : List (Nat × Value)} {st : List Value} {ws : va_W}
theorem w_putI (hc : Cx Γ own cc d) {q0 a ci j index : Nat} {v : Int32} {fs : List Value} (hF : Fld own index ci j false .int) (hw : ws[q0]? = some (a, .inr (ci, fs))) (hj : j < fs.length) (hd : decode cc pc = .ok (.putfield index, 3)) (n1 : JW Γ (pc + 3) lv st (ws.set q0 (a, .inr (ci, fs.set j (.int v)))) k n) : JW Γ pc lv (.int v :: .ref a :: st) ws k n := by
  obtain ⟨p, l, e, R, s, m, args, below, meth, c, D, K, ad, A, nL, cells, slots, Q⟩ := Γ
  obtain ⟨hx, hb, hml, hown, hts, hK, hA, hfr, hlo, hce, hsl⟩ := hc
  obtain ⟨C, T, N, tyX, f1, f2, f3, f4, f5, f6, f7, f8, f9⟩ := hF
  intro H locs ls hP hD hS hl
  have hty : parseFieldDescriptor (T j).2.2.1 = some .int := by rw [f4 j f2, f9]
  rcases f7 with f7 | ⟨host, f7⟩
  · exact va_put (v := .int v) (ty := .int) hx hb hts f3 tyX f4 f5 hown hK.1 hP hD hS q0 hw f1 j f2 (hts _ f7) (fun x h => by rw [f6] at h; exact h) f8 hty rfl rfl hj hd (fun H1 locs1 hP1 hD1 hS1 => n1 H1 locs1 ls hP1 hD1 hS1 hl)
  · exact va_putN (v := .int v) (ty := .int) hx hb hts f3 tyX f4 f5 hown hK.1 hP hD hS q0 hw f1 j f2 (va_Nw.use rfl (hK.2.1.1 _ f7)) (fun x h => by rw [f6] at h; exact h) f8 hty rfl rfl hj hd (fun H1 locs1 hP1 hD1 hS1 => n1 H1 locs1 ls hP1 hD1 hS1 hl)
theorem w_getR (hc : Cx Γ own cc d) {q0 a v ci j index : Nat} {fin : Bool} {ty : FieldType} {fs : List Value} (hF : Fld own index ci j fin ty) (hw : ws[q0]? = some (a, .inr (ci, fs))) (hv : fs[j]? = some (.ref v)) (hd : decode cc pc = .ok (.getfield index, 3)) (n1 : JW Γ (pc + 3) lv (.ref v :: st) ws k n) : JW Γ pc lv (.ref a :: st) ws k n := by
  obtain ⟨p, l, e, R, s, m, args, below, meth, c, D, K, ad, A, nL, cells, slots, Q⟩ := Γ
  obtain ⟨hx, hb, hml, hown, hts, hK, hA, hfr, hlo, hce, hsl⟩ := hc
  obtain ⟨C, T, N, tyX, f1, f2, f3, f4, f5, f6, f7, -, -⟩ := hF
  intro H locs ls hP hD hS hl
  rcases f7 with f7 | ⟨host, f7⟩
  · exact va_get (v := .ref v) hx hb hts f3 hown hK.1 hP q0 hw f1 j f2 (hts _ f7) (fun x h => by rw [f6] at h; exact h) hv hd (n1 H locs ls hP hD hS hl)
  · exact va_getN (v := .ref v) hx hb hts f3 hown hK.1 hP q0 hw f1 j f2 (va_Nw.use rfl (hK.2.1.1 _ f7)) (fun x h => by rw [f6] at h; exact h) hv hd (n1 H locs ls hP hD hS hl)
theorem w_iast (hc : Cx Γ own cc d) {q0 a j N : Nat} {i v : Int32} {f : Nat → Int32} (hw : ws[q0]? = some (a, .inl (Γ.2.2.2.2.2.2.2.2.2.2.2.1.1, N, .inl f))) (hi : i = nI j) (hj : j < N) (hN : N < 2 ^ 31) (hd : decode cc pc = .ok (.iastore, 1)) (n1 : JW Γ (pc + 1) lv st (ws.set q0 (a, .inl (Γ.2.2.2.2.2.2.2.2.2.2.2.1.1, N, .inl (upd f j v)))) k n) : JW Γ pc lv (.int v :: .int i :: .ref a :: st) ws k n := by
  obtain ⟨p, l, e, R, s, m, args, below, meth, c, D, K, ad, A, nL, cells, slots, Q⟩ := Γ
  obtain ⟨hx, hb, hml, hown, hts, hK, hA, hfr, hlo, hce, hsl⟩ := hc
  intro H locs ls hP hD hS hl
  subst hi
  refine va_iast hx hb hK.1 hP hD hS q0 0 hw rfl (vp_in_nI hj hN) hd (fun H1 locs1 hP1 hD1 hS1 => ?_)
  rw [nI_clamp (n := j) (by omega)] at hP1 hD1
  exact n1 H1 locs1 ls hP1 hD1 hS1 hl
theorem obI : Cond.instanceMethod Lib.objectInit ∈ TT := TT_in (by decide +kernel) (by decide +kernel)
theorem obC : Cond.code Lib.objectInit ⟨#[0xb1]⟩ 1 none ∈ TT := TT_in (by decide +kernel) (by decide +kernel)
theorem w_objInit (hc : Cx Γ own cc d) {a idx : Nat} (ho : Cond.methodLink own idx Lib.objectInit ∈ TT) (hd : decode cc pc = .ok (.invokespecial idx, 3)) (hd1 : 1 ≤ d) (n1 : JW Γ (pc + 3) lv [] ws k n) : JW Γ pc lv [.ref a] ws k n := by
  obtain ⟨p, l, e, R, s, m, args, below, meth, c, D, K, ad, A, nL, cells, slots, Q⟩ := Γ
  obtain ⟨hx, hb, hml, hown, hts, hK, hA, hfr, hlo, hce, hsl⟩ := hc
  intro H locs ls hP hD hS hl
  exact W.objInit hx hb hown (hts _ ho) (hts _ obI) (hts _ obC) rfl (by rw [hml]; exact hl.1) rfl hd (by omega) (by show 2 * 0 + 0 + 12 ≤ R.locals; omega) (n1 H locs ls hP hD hS hl)
end NewRules2
def KN (D : va_G) (K : CK) (U : State) : Prop := va_K D vwCl (tysK K) U ∧ Nst U ∧ Nm K U
def QN (D : va_G) (K : CK) (h0 sz : Nat) (post : Nat → CK → va_W → Prop) : Array Value → State → Outcome → State → Prop := fun _ st oc t => oc = .returned none ∧ (∃ ws : va_W, post h0 K ws ∧ va_P D vwCl ws t.heap ∧ va_D (fun q => q = h0 ∨ sz ≤ q) ws) ∧ va_F (fun q => q = h0 ∨ sz ≤ q) st t
/-- a constructor's contract: of the cell h0 it makes cells as post says -/
def SpN (y : MethodName) (cc : ByteArray) (nL d mc ms : Nat) (ws0 : Nat → va_W) (post : Nat → CK → va_W → Prop) : Prop :=
  ∀ (l : Launch) (D : va_G) (K : CK) (h0 sz : Nat), Met l y (.code y cc nL none :: TT) ({ frames := d, cells := mc, slots := ms, locals := 38 * d }) (va_Pc [.ref h0] (fun U => U.heap.size = sz ∧ va_P D vwCl (ws0 h0) U.heap ∧ KN D K U)) (QN D K h0 sz post) mc ms (fun q => q = h0 ∨ sz ≤ q)
def RtN (Γ : Gm) (h0 mc ms : Nat) (post : Nat → CK → va_W → Prop) : Prop := match Γ with
  | (_, _, _, _, s, _, args, below, meth, _, D, K, _, A, _, _, _, Q) => meth.sig.returnType = none ∧ meth.locks = false ∧ A = (fun q => q = h0 ∨ s.heap.size ≤ q) ∧ Q = MQ below (QN D K h0 s.heap.size post) args s mc ms (fun q => q = h0 ∨ s.heap.size ≤ q)
theorem SpN.intro {y : MethodName} {cc : ByteArray} {nL d mc ms : Nat} {ws0 : Nat → va_W} {post : Nat → CK → va_W → Prop} (hy : plainName y.cls = true ∧ y.name = "<init>") (hn : 1 ≤ nL) (h1 : ∀ h0, ∃ e, ws0 h0 = [(h0, e)])
    (body : ∀ (Γ : Gm) (h0 : Nat), Cx Γ y.cls cc d → Fr Γ → (∀ k n, k ≤ mc → n ≤ ms → Rm Γ k n) → RtN Γ h0 mc ms post → JW Γ 0 [(0, .ref h0)] [] (ws0 h0) 0 0) : SpN y cc nL d mc ms ws0 post := by
  intro l D K h0 sz
  refine Met.ofW (cc := cc) (maxL := nL) (ret := none) hy.1 rfl ?_
  intro p e s m args below meth c s₁ B hml hv
  obtain ⟨rfl, rfl, hP, hK, hN, hM⟩ := hv
  have hts := atoms_spec (ws := .code y cc nL none :: TT) B.pre
  have hnm : meth.name = "<init>" := (name_of_methodNamed B.named B.method).1.trans hy.2
  have J0 := body (p, l, e, (headSpec (.code y cc nL none :: TT) ({ frames := d, cells := mc, slots := ms, locals := 38 * d })).room, s, m, ([Value.ref h0] : List Value).toArray, below, meth, c, D, K, fun i => s.heap.size + i, fun q => q = h0 ∨ s.heap.size ≤ q, nL, 0, 0, MQ below (QN D K h0 s.heap.size post) ([Value.ref h0] : List Value).toArray s mc ms (fun q => q = h0 ∨ s.heap.size ≤ q)) h0
    ⟨B.exec, B.bytes, hml, findClass_of_methodNamed B.named, fun w hw => hts w (List.mem_cons_of_mem _ hw), ⟨hK, hN, fun i j _ _ h => Nat.add_left_cancel h⟩, fun i _ => Or.inr (Nat.le_add_right _ _), Nat.le_refl _, Nat.le_refl _, Nat.zero_le _, Nat.zero_le _⟩
    ⟨fun q hq => Or.inr hq, hM, hnm⟩ (fun k n hk hn => ⟨hk, hn⟩) ⟨B.returns, B.notSynchronized, rfl, rfl⟩
  have hl := lv_entry ([Value.ref h0] : List Value) (n := nL) (by show 1 ≤ nL; exact hn)
  rw [lg_entry_eq]
  obtain ⟨e0, he0⟩ := h1 h0
  have hD : va_D (fun q => q = h0 ∨ s.heap.size ≤ q) (ws0 h0) := by
    rw [he0]
    refine ⟨fun i j x y hx hy _ => ?_, fun k q hk => ?_⟩
    · have := (List.getElem?_eq_some_iff.mp hx).1
      have := (List.getElem?_eq_some_iff.mp hy).1
      simp at *
      omega
    · have hz : k < 1 := (List.getElem?_eq_some_iff.mp hk).1
      rw [show k = 0 by omega] at hk
      cases hk
      exact Or.inl rfl
  exact J0 s.heap [] _ hP hD va_S.rf hl
theorem w_ret {Γ : Gm} {own : String} {cc : ByteArray} {d pc h0 mc ms : Nat} {lv : List (Nat × Value)} {ws : va_W} {post : Nat → CK → va_W → Prop} (hc : Cx Γ own cc d) (hr : RtN Γ h0 mc ms post) (hd : decode cc pc = .ok (.return_, 1)) (hp : post h0 Γ.2.2.2.2.2.2.2.2.2.2.2.1 ws) : JW Γ pc lv [] ws mc ms := by
  obtain ⟨p, l, e, R, s, m, args, below, meth, c, D, K, ad, A, nL, cells, slots, Q⟩ := Γ
  obtain ⟨hx, hb, hml, hown, hts, hK, hA, hfr, hlo, hce, hsl⟩ := hc
  obtain ⟨r1, r2, rfl, rfl⟩ := hr
  intro H locs ls hP hD hS hl
  exact W.vret hx hb r1 (fun t ht hW => ⟨rfl, ⟨ws, hp, by rw [ht]; exact hP, hD⟩, hS.F ht⟩) hS.2.2 hd r2
def wsX1 (h0 : Nat) : va_W := [(h0, .inr (1, [.int 0, .int 0, .null, .null, .null, .null, .null, .null, .int 0]))]
def poX1 (h0 : Nat) (K : CK) (ws : va_W) : Prop := ∃ q0 q1 q2 q3 q4 q5 : Nat, ws = [(h0, .inr (1, [.int (nI 0), .int (nI 0), .ref q0, .ref q1, .ref q2, .ref q3, .ref q4, .ref q5, .int (nI 0)])), (q0, .inl (K.1, 13, .inl (fun _ => 0))), (q1, .inl (K.1, 12, .inl (fun _ => 0))), (q2, .inl (K.1, 12, .inl (fun _ => 0))), (q3, .inl (K.1, 13, .inl (fun _ => 0))), (q4, .inl (K.1, 48, .inl (fun _ => 0))), (q5, .inl (K.1, 6, .inl (fun _ => 0)))]
theorem ob_X1 : Cond.methodLink RX1 3 Lib.objectInit ∈ TT := TT_in (by decide +kernel) (by decide +kernel)
theorem in_X1 : SpN yX1_init cX1_init 1 1 6 104 wsX1 poX1 := by
  refine SpN.intro ⟨rfl, rfl⟩ (by decide) (fun h0 => ⟨_, rfl⟩) (fun Γ h0 c f hR r => ?_)
  have hd1 : 1 ≤ 1 := Nat.le_refl 1
  refine w_aload c dX1_init_0 ⟨0, rfl⟩ ?_
  refine w_objInit c ob_X1 dX1_init_1 hd1 ?_
  refine w_aload c dX1_init_4 ⟨0, rfl⟩ ?_
  refine w_iconst c (nI 0) dX1_init_5 (by decide) ?_
  refine w_putI c (q0 := 0) fl_X1_9 rfl (Nat.le_of_ble_eq_true rfl) dX1_init_6 ?_
  show JW Γ 9 [(0, .ref h0)] [] [(h0, .inr (1, [.int (nI 0), .int 0, .null, .null, .null, .null, .null, .null, .int 0]))] 0 0
  refine w_aload c dX1_init_9 ⟨0, rfl⟩ ?_
  refine w_iconst c (nI 0) dX1_init_10 (by decide) ?_
  refine w_putI c (q0 := 0) fl_X1_15 rfl (Nat.le_of_ble_eq_true rfl) dX1_init_11 ?_
  show JW Γ 14 [(0, .ref h0)] [] [(h0, .inr (1, [.int (nI 0), .int (nI 0), .null, .null, .null, .null, .null, .null, .int 0]))] 0 0
  refine w_aload c dX1_init_14 ⟨0, rfl⟩ ?_
  refine w_bipush c (nI 13) dX1_init_15 (by decide) ?_
  refine w_newI c f (hR _ _ (by decide) (by decide)) (by decide) dX1_init_17 (fun q0 => ?_)
  refine w_putF c f (q0 := 0) fl_X1_18 rfl (Nat.le_of_ble_eq_true rfl) dX1_init_19 ⟨_, _, rfl⟩ m_138 ?_
  show JW Γ 22 [(0, .ref h0)] [] [(h0, .inr (1, [.int (nI 0), .int (nI 0), .ref q0, .null, .null, .null, .null, .null, .int 0])), (q0, .inl (Γ.2.2.2.2.2.2.2.2.2.2.2.1.1, 13, .inl (fun _ => 0)))] 1 13
  refine w_aload c dX1_init_22 ⟨0, rfl⟩ ?_
  refine w_bipush c (nI 12) dX1_init_23 (by decide) ?_
  refine w_newI c f (hR _ _ (by decide) (by decide)) (by decide) dX1_init_25 (fun q1 => ?_)
  refine w_putF c f (q0 := 0) fl_X1_22 rfl (Nat.le_of_ble_eq_true rfl) dX1_init_27 ⟨_, _, rfl⟩ m_140 ?_
  show JW Γ 30 [(0, .ref h0)] [] [(h0, .inr (1, [.int (nI 0), .int (nI 0), .ref q0, .ref q1, .null, .null, .null, .null, .int 0])), (q0, .inl (Γ.2.2.2.2.2.2.2.2.2.2.2.1.1, 13, .inl (fun _ => 0))), (q1, .inl (Γ.2.2.2.2.2.2.2.2.2.2.2.1.1, 12, .inl (fun _ => 0)))] 2 25
  refine w_aload c dX1_init_30 ⟨0, rfl⟩ ?_
  refine w_bipush c (nI 12) dX1_init_31 (by decide) ?_
  refine w_newI c f (hR _ _ (by decide) (by decide)) (by decide) dX1_init_33 (fun q2 => ?_)
  refine w_putF c f (q0 := 0) fl_X1_25 rfl (Nat.le_of_ble_eq_true rfl) dX1_init_35 ⟨_, _, rfl⟩ m_142 ?_
  show JW Γ 38 [(0, .ref h0)] [] [(h0, .inr (1, [.int (nI 0), .int (nI 0), .ref q0, .ref q1, .ref q2, .null, .null, .null, .int 0])), (q0, .inl (Γ.2.2.2.2.2.2.2.2.2.2.2.1.1, 13, .inl (fun _ => 0))), (q1, .inl (Γ.2.2.2.2.2.2.2.2.2.2.2.1.1, 12, .inl (fun _ => 0))), (q2, .inl (Γ.2.2.2.2.2.2.2.2.2.2.2.1.1, 12, .inl (fun _ => 0)))] 3 37
  refine w_aload c dX1_init_38 ⟨0, rfl⟩ ?_
  refine w_bipush c (nI 13) dX1_init_39 (by decide) ?_
  refine w_newI c f (hR _ _ (by decide) (by decide)) (by decide) dX1_init_41 (fun q3 => ?_)
  refine w_putF c f (q0 := 0) fl_X1_28 rfl (Nat.le_of_ble_eq_true rfl) dX1_init_43 ⟨_, _, rfl⟩ m_144 ?_
  show JW Γ 46 [(0, .ref h0)] [] [(h0, .inr (1, [.int (nI 0), .int (nI 0), .ref q0, .ref q1, .ref q2, .ref q3, .null, .null, .int 0])), (q0, .inl (Γ.2.2.2.2.2.2.2.2.2.2.2.1.1, 13, .inl (fun _ => 0))), (q1, .inl (Γ.2.2.2.2.2.2.2.2.2.2.2.1.1, 12, .inl (fun _ => 0))), (q2, .inl (Γ.2.2.2.2.2.2.2.2.2.2.2.1.1, 12, .inl (fun _ => 0))), (q3, .inl (Γ.2.2.2.2.2.2.2.2.2.2.2.1.1, 13, .inl (fun _ => 0)))] 4 50
  refine w_aload c dX1_init_46 ⟨0, rfl⟩ ?_
  refine w_bipush c (nI 48) dX1_init_47 (by decide) ?_
  refine w_newI c f (hR _ _ (by decide) (by decide)) (by decide) dX1_init_49 (fun q4 => ?_)
  refine w_putF c f (q0 := 0) fl_X1_31 rfl (Nat.le_of_ble_eq_true rfl) dX1_init_51 ⟨_, _, rfl⟩ m_145 ?_
  show JW Γ 54 [(0, .ref h0)] [] [(h0, .inr (1, [.int (nI 0), .int (nI 0), .ref q0, .ref q1, .ref q2, .ref q3, .ref q4, .null, .int 0])), (q0, .inl (Γ.2.2.2.2.2.2.2.2.2.2.2.1.1, 13, .inl (fun _ => 0))), (q1, .inl (Γ.2.2.2.2.2.2.2.2.2.2.2.1.1, 12, .inl (fun _ => 0))), (q2, .inl (Γ.2.2.2.2.2.2.2.2.2.2.2.1.1, 12, .inl (fun _ => 0))), (q3, .inl (Γ.2.2.2.2.2.2.2.2.2.2.2.1.1, 13, .inl (fun _ => 0))), (q4, .inl (Γ.2.2.2.2.2.2.2.2.2.2.2.1.1, 48, .inl (fun _ => 0)))] 5 98
  refine w_aload c dX1_init_54 ⟨0, rfl⟩ ?_
  refine w_bipush c (nI 6) dX1_init_55 (by decide) ?_
  refine w_newI c f (hR _ _ (by decide) (by decide)) (by decide) dX1_init_57 (fun q5 => ?_)
  refine w_putF c f (q0 := 0) fl_X1_34 rfl (Nat.le_of_ble_eq_true rfl) dX1_init_59 ⟨_, _, rfl⟩ m_146 ?_
  show JW Γ 62 [(0, .ref h0)] [] [(h0, .inr (1, [.int (nI 0), .int (nI 0), .ref q0, .ref q1, .ref q2, .ref q3, .ref q4, .ref q5, .int 0])), (q0, .inl (Γ.2.2.2.2.2.2.2.2.2.2.2.1.1, 13, .inl (fun _ => 0))), (q1, .inl (Γ.2.2.2.2.2.2.2.2.2.2.2.1.1, 12, .inl (fun _ => 0))), (q2, .inl (Γ.2.2.2.2.2.2.2.2.2.2.2.1.1, 12, .inl (fun _ => 0))), (q3, .inl (Γ.2.2.2.2.2.2.2.2.2.2.2.1.1, 13, .inl (fun _ => 0))), (q4, .inl (Γ.2.2.2.2.2.2.2.2.2.2.2.1.1, 48, .inl (fun _ => 0))), (q5, .inl (Γ.2.2.2.2.2.2.2.2.2.2.2.1.1, 6, .inl (fun _ => 0)))] 6 104
  refine w_aload c dX1_init_62 ⟨0, rfl⟩ ?_
  refine w_iconst c (nI 0) dX1_init_63 (by decide) ?_
  refine w_putI c (q0 := 0) fl_X1_37 rfl (Nat.le_of_ble_eq_true rfl) dX1_init_64 ?_
  show JW Γ 67 [(0, .ref h0)] [] [(h0, .inr (1, [.int (nI 0), .int (nI 0), .ref q0, .ref q1, .ref q2, .ref q3, .ref q4, .ref q5, .int (nI 0)])), (q0, .inl (Γ.2.2.2.2.2.2.2.2.2.2.2.1.1, 13, .inl (fun _ => 0))), (q1, .inl (Γ.2.2.2.2.2.2.2.2.2.2.2.1.1, 12, .inl (fun _ => 0))), (q2, .inl (Γ.2.2.2.2.2.2.2.2.2.2.2.1.1, 12, .inl (fun _ => 0))), (q3, .inl (Γ.2.2.2.2.2.2.2.2.2.2.2.1.1, 13, .inl (fun _ => 0))), (q4, .inl (Γ.2.2.2.2.2.2.2.2.2.2.2.1.1, 48, .inl (fun _ => 0))), (q5, .inl (Γ.2.2.2.2.2.2.2.2.2.2.2.1.1, 6, .inl (fun _ => 0)))] 6 104
  exact w_ret c r dX1_init_67 ⟨q0, q1, q2, q3, q4, q5, rfl⟩
def wsX0 (h0 : Nat) : va_W := [(h0, .inr (0, [.int 0, .null, .null, .null, .null, .null, .null, .null, .null, .null]))]
def poX0 (h0 : Nat) (K : CK) (ws : va_W) : Prop := ∃ q0 q1 q2 q3 q4 q5 q6 q7 q8 : Nat, ws = [(h0, .inr (0, [.int (nI 1), .ref q0, .ref q1, .ref q2, .ref q3, .ref q4, .ref q5, .ref q6, .ref q7, .ref q8])), (q0, .inl (K.1, 48, .inl (fun _ => 0))), (q1, .inl (K.1, 16, .inl (fun _ => 0))), (q2, .inl (K.1, 16, .inl (upd (fun _ => 0) 0 (nI 1)))), (q3, .inl (K.1, 256, .inl (fun _ => 0))), (q4, .inl (K.1, 16, .inl (upd (fun _ => 0) 0 (nI 1)))), (q5, .inl (K.1, 256, .inl (fun _ => 0))), (q6, .inl (K.1, 64, .inl (fun _ => 0))), (q7, .inl (K.1, 4, .inl (fun _ => 0))), (q8, .inl (K.1, 4, .inl (fun _ => 0)))]
theorem ob_X0 : Cond.methodLink RX0 3 Lib.objectInit ∈ TT := TT_in (by decide +kernel) (by decide +kernel)
theorem in_X0 : SpN yX0_init cX0_init 1 1 9 680 wsX0 poX0 := by
  refine SpN.intro ⟨rfl, rfl⟩ (by decide) (fun h0 => ⟨_, rfl⟩) (fun Γ h0 c f hR r => ?_)
  have hd1 : 1 ≤ 1 := Nat.le_refl 1
  refine w_aload c dX0_init_0 ⟨0, rfl⟩ ?_
  refine w_objInit c ob_X0 dX0_init_1 hd1 ?_
  refine w_aload c dX0_init_4 ⟨0, rfl⟩ ?_
  refine w_iconst c (nI 1) dX0_init_5 (by decide) ?_
  refine w_putI c (q0 := 0) fl_X0_9 rfl (Nat.le_of_ble_eq_true rfl) dX0_init_6 ?_
  show JW Γ 9 [(0, .ref h0)] [] [(h0, .inr (0, [.int (nI 1), .null, .null, .null, .null, .null, .null, .null, .null, .null]))] 0 0
  refine w_aload c dX0_init_9 ⟨0, rfl⟩ ?_
  refine w_bipush c (nI 48) dX0_init_10 (by decide) ?_
  refine w_newI c f (hR _ _ (by decide) (by decide)) (by decide) dX0_init_12 (fun q0 => ?_)
  refine w_putF c f (q0 := 0) fl_X0_15 rfl (Nat.le_of_ble_eq_true rfl) dX0_init_14 ⟨_, _, rfl⟩ m_90 ?_
  show JW Γ 17 [(0, .ref h0)] [] [(h0, .inr (0, [.int (nI 1), .ref q0, .null, .null, .null, .null, .null, .null, .null, .null])), (q0, .inl (Γ.2.2.2.2.2.2.2.2.2.2.2.1.1, 48, .inl (fun _ => 0)))] 1 48
  refine w_aload c dX0_init_17 ⟨0, rfl⟩ ?_
  refine w_bipush c (nI 16) dX0_init_18 (by decide) ?_
  refine w_newI c f (hR _ _ (by decide) (by decide)) (by decide) dX0_init_20 (fun q1 => ?_)
  refine w_putF c f (q0 := 0) fl_X0_19 rfl (Nat.le_of_ble_eq_true rfl) dX0_init_22 ⟨_, _, rfl⟩ m_92 ?_
  show JW Γ 25 [(0, .ref h0)] [] [(h0, .inr (0, [.int (nI 1), .ref q0, .ref q1, .null, .null, .null, .null, .null, .null, .null])), (q0, .inl (Γ.2.2.2.2.2.2.2.2.2.2.2.1.1, 48, .inl (fun _ => 0))), (q1, .inl (Γ.2.2.2.2.2.2.2.2.2.2.2.1.1, 16, .inl (fun _ => 0)))] 2 64
  refine w_aload c dX0_init_25 ⟨0, rfl⟩ ?_
  refine w_bipush c (nI 16) dX0_init_26 (by decide) ?_
  refine w_newI c f (hR _ _ (by decide) (by decide)) (by decide) dX0_init_28 (fun q2 => ?_)
  refine w_putF c f (q0 := 0) fl_X0_22 rfl (Nat.le_of_ble_eq_true rfl) dX0_init_30 ⟨_, _, rfl⟩ m_94 ?_
  show JW Γ 33 [(0, .ref h0)] [] [(h0, .inr (0, [.int (nI 1), .ref q0, .ref q1, .ref q2, .null, .null, .null, .null, .null, .null])), (q0, .inl (Γ.2.2.2.2.2.2.2.2.2.2.2.1.1, 48, .inl (fun _ => 0))), (q1, .inl (Γ.2.2.2.2.2.2.2.2.2.2.2.1.1, 16, .inl (fun _ => 0))), (q2, .inl (Γ.2.2.2.2.2.2.2.2.2.2.2.1.1, 16, .inl (fun _ => 0)))] 3 80
  refine w_aload c dX0_init_33 ⟨0, rfl⟩ ?_
  refine w_sipush c (nI 256) dX0_init_34 (by decide) ?_
  refine w_newI c f (hR _ _ (by decide) (by decide)) (by decide) dX0_init_37 (fun q3 => ?_)
  refine w_putF c f (q0 := 0) fl_X0_25 rfl (Nat.le_of_ble_eq_true rfl) dX0_init_39 ⟨_, _, rfl⟩ m_96 ?_
  show JW Γ 42 [(0, .ref h0)] [] [(h0, .inr (0, [.int (nI 1), .ref q0, .ref q1, .ref q2, .ref q3, .null, .null, .null, .null, .null])), (q0, .inl (Γ.2.2.2.2.2.2.2.2.2.2.2.1.1, 48, .inl (fun _ => 0))), (q1, .inl (Γ.2.2.2.2.2.2.2.2.2.2.2.1.1, 16, .inl (fun _ => 0))), (q2, .inl (Γ.2.2.2.2.2.2.2.2.2.2.2.1.1, 16, .inl (fun _ => 0))), (q3, .inl (Γ.2.2.2.2.2.2.2.2.2.2.2.1.1, 256, .inl (fun _ => 0)))] 4 336
  refine w_aload c dX0_init_42 ⟨0, rfl⟩ ?_
  refine w_bipush c (nI 16) dX0_init_43 (by decide) ?_
  refine w_newI c f (hR _ _ (by decide) (by decide)) (by decide) dX0_init_45 (fun q4 => ?_)
  refine w_putF c f (q0 := 0) fl_X0_28 rfl (Nat.le_of_ble_eq_true rfl) dX0_init_47 ⟨_, _, rfl⟩ m_98 ?_
  show JW Γ 50 [(0, .ref h0)] [] [(h0, .inr (0, [.int (nI 1), .ref q0, .ref q1, .ref q2, .ref q3, .ref q4, .null, .null, .null, .null])), (q0, .inl (Γ.2.2.2.2.2.2.2.2.2.2.2.1.1, 48, .inl (fun _ => 0))), (q1, .inl (Γ.2.2.2.2.2.2.2.2.2.2.2.1.1, 16, .inl (fun _ => 0))), (q2, .inl (Γ.2.2.2.2.2.2.2.2.2.2.2.1.1, 16, .inl (fun _ => 0))), (q3, .inl (Γ.2.2.2.2.2.2.2.2.2.2.2.1.1, 256, .inl (fun _ => 0))), (q4, .inl (Γ.2.2.2.2.2.2.2.2.2.2.2.1.1, 16, .inl (fun _ => 0)))] 5 352
  refine w_aload c dX0_init_50 ⟨0, rfl⟩ ?_
  refine w_sipush c (nI 256) dX0_init_51 (by decide) ?_
  refine w_newI c f (hR _ _ (by decide) (by decide)) (by decide) dX0_init_54 (fun q5 => ?_)
  refine w_putF c f (q0 := 0) fl_X0_31 rfl (Nat.le_of_ble_eq_true rfl) dX0_init_56 ⟨_, _, rfl⟩ m_100 ?_
  show JW Γ 59 [(0, .ref h0)] [] [(h0, .inr (0, [.int (nI 1), .ref q0, .ref q1, .ref q2, .ref q3, .ref q4, .ref q5, .null, .null, .null])), (q0, .inl (Γ.2.2.2.2.2.2.2.2.2.2.2.1.1, 48, .inl (fun _ => 0))), (q1, .inl (Γ.2.2.2.2.2.2.2.2.2.2.2.1.1, 16, .inl (fun _ => 0))), (q2, .inl (Γ.2.2.2.2.2.2.2.2.2.2.2.1.1, 16, .inl (fun _ => 0))), (q3, .inl (Γ.2.2.2.2.2.2.2.2.2.2.2.1.1, 256, .inl (fun _ => 0))), (q4, .inl (Γ.2.2.2.2.2.2.2.2.2.2.2.1.1, 16, .inl (fun _ => 0))), (q5, .inl (Γ.2.2.2.2.2.2.2.2.2.2.2.1.1, 256, .inl (fun _ => 0)))] 6 608
  refine w_aload c dX0_init_59 ⟨0, rfl⟩ ?_
  refine w_bipush c (nI 64) dX0_init_60 (by decide) ?_
  refine w_newI c f (hR _ _ (by decide) (by decide)) (by decide) dX0_init_62 (fun q6 => ?_)
  refine w_putF c f (q0 := 0) fl_X0_34 rfl (Nat.le_of_ble_eq_true rfl) dX0_init_64 ⟨_, _, rfl⟩ m_102 ?_
  show JW Γ 67 [(0, .ref h0)] [] [(h0, .inr (0, [.int (nI 1), .ref q0, .ref q1, .ref q2, .ref q3, .ref q4, .ref q5, .ref q6, .null, .null])), (q0, .inl (Γ.2.2.2.2.2.2.2.2.2.2.2.1.1, 48, .inl (fun _ => 0))), (q1, .inl (Γ.2.2.2.2.2.2.2.2.2.2.2.1.1, 16, .inl (fun _ => 0))), (q2, .inl (Γ.2.2.2.2.2.2.2.2.2.2.2.1.1, 16, .inl (fun _ => 0))), (q3, .inl (Γ.2.2.2.2.2.2.2.2.2.2.2.1.1, 256, .inl (fun _ => 0))), (q4, .inl (Γ.2.2.2.2.2.2.2.2.2.2.2.1.1, 16, .inl (fun _ => 0))), (q5, .inl (Γ.2.2.2.2.2.2.2.2.2.2.2.1.1, 256, .inl (fun _ => 0))), (q6, .inl (Γ.2.2.2.2.2.2.2.2.2.2.2.1.1, 64, .inl (fun _ => 0)))] 7 672
  refine w_aload c dX0_init_67 ⟨0, rfl⟩ ?_
  refine w_iconst c (nI 4) dX0_init_68 (by decide) ?_
  refine w_newI c f (hR _ _ (by decide) (by decide)) (by decide) dX0_init_69 (fun q7 => ?_)
  refine w_putF c f (q0 := 0) fl_X0_37 rfl (Nat.le_of_ble_eq_true rfl) dX0_init_71 ⟨_, _, rfl⟩ m_103 ?_
  show JW Γ 74 [(0, .ref h0)] [] [(h0, .inr (0, [.int (nI 1), .ref q0, .ref q1, .ref q2, .ref q3, .ref q4, .ref q5, .ref q6, .ref q7, .null])), (q0, .inl (Γ.2.2.2.2.2.2.2.2.2.2.2.1.1, 48, .inl (fun _ => 0))), (q1, .inl (Γ.2.2.2.2.2.2.2.2.2.2.2.1.1, 16, .inl (fun _ => 0))), (q2, .inl (Γ.2.2.2.2.2.2.2.2.2.2.2.1.1, 16, .inl (fun _ => 0))), (q3, .inl (Γ.2.2.2.2.2.2.2.2.2.2.2.1.1, 256, .inl (fun _ => 0))), (q4, .inl (Γ.2.2.2.2.2.2.2.2.2.2.2.1.1, 16, .inl (fun _ => 0))), (q5, .inl (Γ.2.2.2.2.2.2.2.2.2.2.2.1.1, 256, .inl (fun _ => 0))), (q6, .inl (Γ.2.2.2.2.2.2.2.2.2.2.2.1.1, 64, .inl (fun _ => 0))), (q7, .inl (Γ.2.2.2.2.2.2.2.2.2.2.2.1.1, 4, .inl (fun _ => 0)))] 8 676
  refine w_aload c dX0_init_74 ⟨0, rfl⟩ ?_
  refine w_iconst c (nI 4) dX0_init_75 (by decide) ?_
  refine w_newI c f (hR _ _ (by decide) (by decide)) (by decide) dX0_init_76 (fun q8 => ?_)
  refine w_putF c f (q0 := 0) fl_X0_40 rfl (Nat.le_of_ble_eq_true rfl) dX0_init_78 ⟨_, _, rfl⟩ m_104 ?_
  show JW Γ 81 [(0, .ref h0)] [] [(h0, .inr (0, [.int (nI 1), .ref q0, .ref q1, .ref q2, .ref q3, .ref q4, .ref q5, .ref q6, .ref q7, .ref q8])), (q0, .inl (Γ.2.2.2.2.2.2.2.2.2.2.2.1.1, 48, .inl (fun _ => 0))), (q1, .inl (Γ.2.2.2.2.2.2.2.2.2.2.2.1.1, 16, .inl (fun _ => 0))), (q2, .inl (Γ.2.2.2.2.2.2.2.2.2.2.2.1.1, 16, .inl (fun _ => 0))), (q3, .inl (Γ.2.2.2.2.2.2.2.2.2.2.2.1.1, 256, .inl (fun _ => 0))), (q4, .inl (Γ.2.2.2.2.2.2.2.2.2.2.2.1.1, 16, .inl (fun _ => 0))), (q5, .inl (Γ.2.2.2.2.2.2.2.2.2.2.2.1.1, 256, .inl (fun _ => 0))), (q6, .inl (Γ.2.2.2.2.2.2.2.2.2.2.2.1.1, 64, .inl (fun _ => 0))), (q7, .inl (Γ.2.2.2.2.2.2.2.2.2.2.2.1.1, 4, .inl (fun _ => 0))), (q8, .inl (Γ.2.2.2.2.2.2.2.2.2.2.2.1.1, 4, .inl (fun _ => 0)))] 9 680
  refine w_aload c dX0_init_81 ⟨0, rfl⟩ ?_
  refine w_getR c (q0 := 0) fl_X0_22 rfl rfl dX0_init_82 ?_
  refine w_iconst c (nI 0) dX0_init_85 (by decide) ?_
  refine w_iconst c (nI 1) dX0_init_86 (by decide) ?_
  refine w_iast c (q0 := 3) (j := 0) rfl rfl (by decide) (by decide) dX0_init_87 ?_
  show JW Γ 88 [(0, .ref h0)] [] [(h0, .inr (0, [.int (nI 1), .ref q0, .ref q1, .ref q2, .ref q3, .ref q4, .ref q5, .ref q6, .ref q7, .ref q8])), (q0, .inl (Γ.2.2.2.2.2.2.2.2.2.2.2.1.1, 48, .inl (fun _ => 0))), (q1, .inl (Γ.2.2.2.2.2.2.2.2.2.2.2.1.1, 16, .inl (fun _ => 0))), (q2, .inl (Γ.2.2.2.2.2.2.2.2.2.2.2.1.1, 16, .inl (upd (fun _ => 0) 0 (nI 1)))), (q3, .inl (Γ.2.2.2.2.2.2.2.2.2.2.2.1.1, 256, .inl (fun _ => 0))), (q4, .inl (Γ.2.2.2.2.2.2.2.2.2.2.2.1.1, 16, .inl (fun _ => 0))), (q5, .inl (Γ.2.2.2.2.2.2.2.2.2.2.2.1.1, 256, .inl (fun _ => 0))), (q6, .inl (Γ.2.2.2.2.2.2.2.2.2.2.2.1.1, 64, .inl (fun _ => 0))), (q7, .inl (Γ.2.2.2.2.2.2.2.2.2.2.2.1.1, 4, .inl (fun _ => 0))), (q8, .inl (Γ.2.2.2.2.2.2.2.2.2.2.2.1.1, 4, .inl (fun _ => 0)))] 9 680
  refine w_aload c dX0_init_88 ⟨0, rfl⟩ ?_
  refine w_getR c (q0 := 0) fl_X0_28 rfl rfl dX0_init_89 ?_
  refine w_iconst c (nI 0) dX0_init_92 (by decide) ?_
  refine w_iconst c (nI 1) dX0_init_93 (by decide) ?_
  refine w_iast c (q0 := 5) (j := 0) rfl rfl (by decide) (by decide) dX0_init_94 ?_
  show JW Γ 95 [(0, .ref h0)] [] [(h0, .inr (0, [.int (nI 1), .ref q0, .ref q1, .ref q2, .ref q3, .ref q4, .ref q5, .ref q6, .ref q7, .ref q8])), (q0, .inl (Γ.2.2.2.2.2.2.2.2.2.2.2.1.1, 48, .inl (fun _ => 0))), (q1, .inl (Γ.2.2.2.2.2.2.2.2.2.2.2.1.1, 16, .inl (fun _ => 0))), (q2, .inl (Γ.2.2.2.2.2.2.2.2.2.2.2.1.1, 16, .inl (upd (fun _ => 0) 0 (nI 1)))), (q3, .inl (Γ.2.2.2.2.2.2.2.2.2.2.2.1.1, 256, .inl (fun _ => 0))), (q4, .inl (Γ.2.2.2.2.2.2.2.2.2.2.2.1.1, 16, .inl (upd (fun _ => 0) 0 (nI 1)))), (q5, .inl (Γ.2.2.2.2.2.2.2.2.2.2.2.1.1, 256, .inl (fun _ => 0))), (q6, .inl (Γ.2.2.2.2.2.2.2.2.2.2.2.1.1, 64, .inl (fun _ => 0))), (q7, .inl (Γ.2.2.2.2.2.2.2.2.2.2.2.1.1, 4, .inl (fun _ => 0))), (q8, .inl (Γ.2.2.2.2.2.2.2.2.2.2.2.1.1, 4, .inl (fun _ => 0)))] 9 680
  exact w_ret c r dX0_init_95 ⟨q0, q1, q2, q3, q4, q5, q6, q7, q8, rfl⟩
def wsX3 (h0 : Nat) : va_W := [(h0, .inr (3, [.int 0, .int 0, .null, .null, .null, .null, .int 0, .null, .null, .null, .null, .int 0, .null, .null, .int 0, .int 0, .null, .null, .null, .int 0, .int 0, .null, .int 0, .int 0, .null, .null]))]
def poX3 (h0 : Nat) (K : CK) (ws : va_W) : Prop := ∃ q0 q1 q2 q3 q4 q5 q6 q7 q8 q9 q10 q11 q12 q13 q14 q15 : Nat, ws = [(h0, .inr (3, [.int 0, .int (nI 1), .ref q0, .ref q1, .ref q2, .ref q3, .int 0, .ref q4, .ref q5, .ref q6, .ref q7, .int 0, .ref q8, .ref q9, .int 0, .int 0, .ref q10, .ref q11, .ref q12, .int (-1), .int 0, .ref q13, .int 0, .int 0, .ref q14, .ref q15])), (q0, .inl (K.1, 16, .inl (upd (fun _ => 0) 0 (nI 1)))), (q1, .inl (K.1, 256, .inl (fun _ => 0))), (q2, .inl (K.1, 16, .inl (upd (fun _ => 0) 0 (nI 1)))), (q3, .inl (K.1, 256, .inl (fun _ => 0))), (q4, .inl (K.1, 4, .inl (fun _ => 0))), (q5, .inl (K.1, 48, .inl (fun _ => 0))), (q6, .inl (K.1, 48, .inl (fun _ => 0))), (q7, .inl (K.1, 48, .inl (fun _ => 0))), (q8, .inl (K.1, 24, .inl (fun _ => 0))), (q9, .inl (K.1, 4, .inl (fun _ => 0))), (q10, .inl (K.1, 64, .inl (fun _ => 0))), (q11, .inl (K.1, 4, .inl (fun _ => 0))), (q12, .inl (K.1, 4, .inl (fun _ => 0))), (q13, .inl (K.1, 13, .inl (fun _ => 0))), (q14, .inl (K.1, 4096, .inl (fun _ => 0))), (q15, .inl (K.1, 12, .inl (fun _ => 0)))]
theorem ob_X3 : Cond.methodLink RX3 1 Lib.objectInit ∈ TT := TT_in (by decide +kernel) (by decide +kernel)
theorem in_X3 : SpN yX3_init cX3_init 1 1 16 4913 wsX3 poX3 := by
  refine SpN.intro ⟨rfl, rfl⟩ (by decide) (fun h0 => ⟨_, rfl⟩) (fun Γ h0 c f hR r => ?_)
  have hd1 : 1 ≤ 1 := Nat.le_refl 1
  refine w_aload c dX3_init_0 ⟨0, rfl⟩ ?_
  refine w_objInit c ob_X3 dX3_init_1 hd1 ?_
  refine w_aload c dX3_init_4 ⟨0, rfl⟩ ?_
  refine w_bipush c (nI 16) dX3_init_5 (by decide) ?_
  refine w_newI c f (hR _ _ (by decide) (by decide)) (by decide) dX3_init_7 (fun q0 => ?_)
  refine w_putF c f (q0 := 0) fl_X3_7 rfl (Nat.le_of_ble_eq_true rfl) dX3_init_9 ⟨_, _, rfl⟩ m_593 ?_
  show JW Γ 12 [(0, .ref h0)] [] [(h0, .inr (3, [.int 0, .int 0, .ref q0, .null, .null, .null, .int 0, .null, .null, .null, .null, .int 0, .null, .null, .int 0, .int 0, .null, .null, .null, .int 0, .int 0, .null, .int 0, .int 0, .null, .null])), (q0, .inl (Γ.2.2.2.2.2.2.2.2.2.2.2.1.1, 16, .inl (fun _ => 0)))] 1 16
  refine w_aload c dX3_init_12 ⟨0, rfl⟩ ?_
  refine w_sipush c (nI 256) dX3_init_13 (by decide) ?_
  refine w_newI c f (hR _ _ (by decide) (by decide)) (by decide) dX3_init_16 (fun q1 => ?_)
  refine w_putF c f (q0 := 0) fl_X3_13 rfl (Nat.le_of_ble_eq_true rfl) dX3_init_18 ⟨_, _, rfl⟩ m_594 ?_
  show JW Γ 21 [(0, .ref h0)] [] [(h0, .inr (3, [.int 0, .int 0, .ref q0, .ref q1, .null, .null, .int 0, .null, .null, .null, .null, .int 0, .null, .null, .int 0, .int 0, .null, .null, .null, .int 0, .int 0, .null, .int 0, .int 0, .null, .null])), (q0, .inl (Γ.2.2.2.2.2.2.2.2.2.2.2.1.1, 16, .inl (fun _ => 0))), (q1, .inl (Γ.2.2.2.2.2.2.2.2.2.2.2.1.1, 256, .inl (fun _ => 0)))] 2 272
  refine w_aload c dX3_init_21 ⟨0, rfl⟩ ?_
  refine w_bipush c (nI 16) dX3_init_22 (by decide) ?_
  refine w_newI c f (hR _ _ (by decide) (by decide)) (by decide) dX3_init_24 (fun q2 => ?_)
  refine w_putF c f (q0 := 0) fl_X3_16 rfl (Nat.le_of_ble_eq_true rfl) dX3_init_26 ⟨_, _, rfl⟩ m_595 ?_
  show JW Γ 29 [(0, .ref h0)] [] [(h0, .inr (3, [.int 0, .int 0, .ref q0, .ref q1, .ref q2, .null, .int 0, .null, .null, .null, .null, .int 0, .null, .null, .int 0, .int 0, .null, .null, .null, .int 0, .int 0, .null, .int 0, .int 0, .null, .null])), (q0, .inl (Γ.2.2.2.2.2.2.2.2.2.2.2.1.1, 16, .inl (fun _ => 0))), (q1, .inl (Γ.2.2.2.2.2.2.2.2.2.2.2.1.1, 256, .inl (fun _ => 0))), (q2, .inl (Γ.2.2.2.2.2.2.2.2.2.2.2.1.1, 16, .inl (fun _ => 0)))] 3 288
  refine w_aload c dX3_init_29 ⟨0, rfl⟩ ?_
  refine w_sipush c (nI 256) dX3_init_30 (by decide) ?_
  refine w_newI c f (hR _ _ (by decide) (by decide)) (by decide) dX3_init_33 (fun q3 => ?_)
  refine w_putF c f (q0 := 0) fl_X3_19 rfl (Nat.le_of_ble_eq_true rfl) dX3_init_35 ⟨_, _, rfl⟩ m_596 ?_
  show JW Γ 38 [(0, .ref h0)] [] [(h0, .inr (3, [.int 0, .int 0, .ref q0, .ref q1, .ref q2, .ref q3, .int 0, .null, .null, .null, .null, .int 0, .null, .null, .int 0, .int 0, .null, .null, .null, .int 0, .int 0, .null, .int 0, .int 0, .null, .null])), (q0, .inl (Γ.2.2.2.2.2.2.2.2.2.2.2.1.1, 16, .inl (fun _ => 0))), (q1, .inl (Γ.2.2.2.2.2.2.2.2.2.2.2.1.1, 256, .inl (fun _ => 0))), (q2, .inl (Γ.2.2.2.2.2.2.2.2.2.2.2.1.1, 16, .inl (fun _ => 0))), (q3, .inl (Γ.2.2.2.2.2.2.2.2.2.2.2.1.1, 256, .inl (fun _ => 0)))] 4 544
  refine w_aload c dX3_init_38 ⟨0, rfl⟩ ?_
  refine w_iconst c (nI 4) dX3_init_39 (by decide) ?_
  refine w_newI c f (hR _ _ (by decide) (by decide)) (by decide) dX3_init_40 (fun q4 => ?_)
  refine w_putF c f (q0 := 0) fl_X3_22 rfl (Nat.le_of_ble_eq_true rfl) dX3_init_42 ⟨_, _, rfl⟩ m_598 ?_
  show JW Γ 45 [(0, .ref h0)] [] [(h0, .inr (3, [.int 0, .int 0, .ref q0, .ref q1, .ref q2, .ref q3, .int 0, .ref q4, .null, .null, .null, .int 0, .null, .null, .int 0, .int 0, .null, .null, .null, .int 0, .int 0, .null, .int 0, .int 0, .null, .null])), (q0, .inl (Γ.2.2.2.2.2.2.2.2.2.2.2.1.1, 16, .inl (fun _ => 0))), (q1, .inl (Γ.2.2.2.2.2.2.2.2.2.2.2.1.1, 256, .inl (fun _ => 0))), (q2, .inl (Γ.2.2.2.2.2.2.2.2.2.2.2.1.1, 16, .inl (fun _ => 0))), (q3, .inl (Γ.2.2.2.2.2.2.2.2.2.2.2.1.1, 256, .inl (fun _ => 0))), (q4, .inl (Γ.2.2.2.2.2.2.2.2.2.2.2.1.1, 4, .inl (fun _ => 0)))] 5 548
  refine w_aload c dX3_init_45 ⟨0, rfl⟩ ?_
  refine w_bipush c (nI 48) dX3_init_46 (by decide) ?_
  refine w_newI c f (hR _ _ (by decide) (by decide)) (by decide) dX3_init_48 (fun q5 => ?_)
  refine w_putF c f (q0 := 0) fl_X3_25 rfl (Nat.le_of_ble_eq_true rfl) dX3_init_50 ⟨_, _, rfl⟩ m_599 ?_
  show JW Γ 53 [(0, .ref h0)] [] [(h0, .inr (3, [.int 0, .int 0, .ref q0, .ref q1, .ref q2, .ref q3, .int 0, .ref q4, .ref q5, .null, .null, .int 0, .null, .null, .int 0, .int 0, .null, .null, .null, .int 0, .int 0, .null, .int 0, .int 0, .null, .null])), (q0, .inl (Γ.2.2.2.2.2.2.2.2.2.2.2.1.1, 16, .inl (fun _ => 0))), (q1, .inl (Γ.2.2.2.2.2.2.2.2.2.2.2.1.1, 256, .inl (fun _ => 0))), (q2, .inl (Γ.2.2.2.2.2.2.2.2.2.2.2.1.1, 16, .inl (fun _ => 0))), (q3, .inl (Γ.2.2.2.2.2.2.2.2.2.2.2.1.1, 256, .inl (fun _ => 0))), (q4, .inl (Γ.2.2.2.2.2.2.2.2.2.2.2.1.1, 4, .inl (fun _ => 0))), (q5, .inl (Γ.2.2.2.2.2.2.2.2.2.2.2.1.1, 48, .inl (fun _ => 0)))] 6 596
  refine w_aload c dX3_init_53 ⟨0, rfl⟩ ?_
  refine w_bipush c (nI 48) dX3_init_54 (by decide) ?_
  refine w_newI c f (hR _ _ (by decide) (by decide)) (by decide) dX3_init_56 (fun q6 => ?_)
  refine w_putF c f (q0 := 0) fl_X3_28 rfl (Nat.le_of_ble_eq_true rfl) dX3_init_58 ⟨_, _, rfl⟩ m_600 ?_
  show JW Γ 61 [(0, .ref h0)] [] [(h0, .inr (3, [.int 0, .int 0, .ref q0, .ref q1, .ref q2, .ref q3, .int 0, .ref q4, .ref q5, .ref q6, .null, .int 0, .null, .null, .int 0, .int 0, .null, .null, .null, .int 0, .int 0, .null, .int 0, .int 0, .null, .null])), (q0, .inl (Γ.2.2.2.2.2.2.2.2.2.2.2.1.1, 16, .inl (fun _ => 0))), (q1, .inl (Γ.2.2.2.2.2.2.2.2.2.2.2.1.1, 256, .inl (fun _ => 0))), (q2, .inl (Γ.2.2.2.2.2.2.2.2.2.2.2.1.1, 16, .inl (fun _ => 0))), (q3, .inl (Γ.2.2.2.2.2.2.2.2.2.2.2.1.1, 256, .inl (fun _ => 0))), (q4, .inl (Γ.2.2.2.2.2.2.2.2.2.2.2.1.1, 4, .inl (fun _ => 0))), (q5, .inl (Γ.2.2.2.2.2.2.2.2.2.2.2.1.1, 48, .inl (fun _ => 0))), (q6, .inl (Γ.2.2.2.2.2.2.2.2.2.2.2.1.1, 48, .inl (fun _ => 0)))] 7 644
  refine w_aload c dX3_init_61 ⟨0, rfl⟩ ?_
  refine w_bipush c (nI 48) dX3_init_62 (by decide) ?_
  refine w_newI c f (hR _ _ (by decide) (by decide)) (by decide) dX3_init_64 (fun q7 => ?_)
  refine w_putF c f (q0 := 0) fl_X3_31 rfl (Nat.le_of_ble_eq_true rfl) dX3_init_66 ⟨_, _, rfl⟩ m_601 ?_
  show JW Γ 69 [(0, .ref h0)] [] [(h0, .inr (3, [.int 0, .int 0, .ref q0, .ref q1, .ref q2, .ref q3, .int 0, .ref q4, .ref q5, .ref q6, .ref q7, .int 0, .null, .null, .int 0, .int 0, .null, .null, .null, .int 0, .int 0, .null, .int 0, .int 0, .null, .null])), (q0, .inl (Γ.2.2.2.2.2.2.2.2.2.2.2.1.1, 16, .inl (fun _ => 0))), (q1, .inl (Γ.2.2.2.2.2.2.2.2.2.2.2.1.1, 256, .inl (fun _ => 0))), (q2, .inl (Γ.2.2.2.2.2.2.2.2.2.2.2.1.1, 16, .inl (fun _ => 0))), (q3, .inl (Γ.2.2.2.2.2.2.2.2.2.2.2.1.1, 256, .inl (fun _ => 0))), (q4, .inl (Γ.2.2.2.2.2.2.2.2.2.2.2.1.1, 4, .inl (fun _ => 0))), (q5, .inl (Γ.2.2.2.2.2.2.2.2.2.2.2.1.1, 48, .inl (fun _ => 0))), (q6, .inl (Γ.2.2.2.2.2.2.2.2.2.2.2.1.1, 48, .inl (fun _ => 0))), (q7, .inl (Γ.2.2.2.2.2.2.2.2.2.2.2.1.1, 48, .inl (fun _ => 0)))] 8 692
  refine w_aload c dX3_init_69 ⟨0, rfl⟩ ?_
  refine w_bipush c (nI 24) dX3_init_70 (by decide) ?_
  refine w_newI c f (hR _ _ (by decide) (by decide)) (by decide) dX3_init_72 (fun q8 => ?_)
  refine w_putF c f (q0 := 0) fl_X3_34 rfl (Nat.le_of_ble_eq_true rfl) dX3_init_74 ⟨_, _, rfl⟩ m_603 ?_
  show JW Γ 77 [(0, .ref h0)] [] [(h0, .inr (3, [.int 0, .int 0, .ref q0, .ref q1, .ref q2, .ref q3, .int 0, .ref q4, .ref q5, .ref q6, .ref q7, .int 0, .ref q8, .null, .int 0, .int 0, .null, .null, .null, .int 0, .int 0, .null, .int 0, .int 0, .null, .null])), (q0, .inl (Γ.2.2.2.2.2.2.2.2.2.2.2.1.1, 16, .inl (fun _ => 0))), (q1, .inl (Γ.2.2.2.2.2.2.2.2.2.2.2.1.1, 256, .inl (fun _ => 0))), (q2, .inl (Γ.2.2.2.2.2.2.2.2.2.2.2.1.1, 16, .inl (fun _ => 0))), (q3, .inl (Γ.2.2.2.2.2.2.2.2.2.2.2.1.1, 256, .inl (fun _ => 0))), (q4, .inl (Γ.2.2.2.2.2.2.2.2.2.2.2.1.1, 4, .inl (fun _ => 0))), (q5, .inl (Γ.2.2.2.2.2.2.2.2.2.2.2.1.1, 48, .inl (fun _ => 0))), (q6, .inl (Γ.2.2.2.2.2.2.2.2.2.2.2.1.1, 48, .inl (fun _ => 0))), (q7, .inl (Γ.2.2.2.2.2.2.2.2.2.2.2.1.1, 48, .inl (fun _ => 0))), (q8, .inl (Γ.2.2.2.2.2.2.2.2.2.2.2.1.1, 24, .inl (fun _ => 0)))] 9 716
  refine w_aload c dX3_init_77 ⟨0, rfl⟩ ?_
  refine w_iconst c (nI 4) dX3_init_78 (by decide) ?_
  refine w_newI c f (hR _ _ (by decide) (by decide)) (by decide) dX3_init_79 (fun q9 => ?_)
  refine w_putF c f (q0 := 0) fl_X3_37 rfl (Nat.le_of_ble_eq_true rfl) dX3_init_81 ⟨_, _, rfl⟩ m_604 ?_
  show JW Γ 84 [(0, .ref h0)] [] [(h0, .inr (3, [.int 0, .int 0, .ref q0, .ref q1, .ref q2, .ref q3, .int 0, .ref q4, .ref q5, .ref q6, .ref q7, .int 0, .ref q8, .ref q9, .int 0, .int 0, .null, .null, .null, .int 0, .int 0, .null, .int 0, .int 0, .null, .null])), (q0, .inl (Γ.2.2.2.2.2.2.2.2.2.2.2.1.1, 16, .inl (fun _ => 0))), (q1, .inl (Γ.2.2.2.2.2.2.2.2.2.2.2.1.1, 256, .inl (fun _ => 0))), (q2, .inl (Γ.2.2.2.2.2.2.2.2.2.2.2.1.1, 16, .inl (fun _ => 0))), (q3, .inl (Γ.2.2.2.2.2.2.2.2.2.2.2.1.1, 256, .inl (fun _ => 0))), (q4, .inl (Γ.2.2.2.2.2.2.2.2.2.2.2.1.1, 4, .inl (fun _ => 0))), (q5, .inl (Γ.2.2.2.2.2.2.2.2.2.2.2.1.1, 48, .inl (fun _ => 0))), (q6, .inl (Γ.2.2.2.2.2.2.2.2.2.2.2.1.1, 48, .inl (fun _ => 0))), (q7, .inl (Γ.2.2.2.2.2.2.2.2.2.2.2.1.1, 48, .inl (fun _ => 0))), (q8, .inl (Γ.2.2.2.2.2.2.2.2.2.2.2.1.1, 24, .inl (fun _ => 0))), (q9, .inl (Γ.2.2.2.2.2.2.2.2.2.2.2.1.1, 4, .inl (fun _ => 0)))] 10 720
  refine w_aload c dX3_init_84 ⟨0, rfl⟩ ?_
  refine w_bipush c (nI 64) dX3_init_85 (by decide) ?_
  refine w_newI c f (hR _ _ (by decide) (by decide)) (by decide) dX3_init_87 (fun q10 => ?_)
  refine w_putF c f (q0 := 0) fl_X3_40 rfl (Nat.le_of_ble_eq_true rfl) dX3_init_89 ⟨_, _, rfl⟩ m_607 ?_
  show JW Γ 92 [(0, .ref h0)] [] [(h0, .inr (3, [.int 0, .int 0, .ref q0, .ref q1, .ref q2, .ref q3, .int 0, .ref q4, .ref q5, .ref q6, .ref q7, .int 0, .ref q8, .ref q9, .int 0, .int 0, .ref q10, .null, .null, .int 0, .int 0, .null, .int 0, .int 0, .null, .null])), (q0, .inl (Γ.2.2.2.2.2.2.2.2.2.2.2.1.1, 16, .inl (fun _ => 0))), (q1, .inl (Γ.2.2.2.2.2.2.2.2.2.2.2.1.1, 256, .inl (fun _ => 0))), (q2, .inl (Γ.2.2.2.2.2.2.2.2.2.2.2.1.1, 16, .inl (fun _ => 0))), (q3, .inl (Γ.2.2.2.2.2.2.2.2.2.2.2.1.1, 256, .inl (fun _ => 0))), (q4, .inl (Γ.2.2.2.2.2.2.2.2.2.2.2.1.1, 4, .inl (fun _ => 0))), (q5, .inl (Γ.2.2.2.2.2.2.2.2.2.2.2.1.1, 48, .inl (fun _ => 0))), (q6, .inl (Γ.2.2.2.2.2.2.2.2.2.2.2.1.1, 48, .inl (fun _ => 0))), (q7, .inl (Γ.2.2.2.2.2.2.2.2.2.2.2.1.1, 48, .inl (fun _ => 0))), (q8, .inl (Γ.2.2.2.2.2.2.2.2.2.2.2.1.1, 24, .inl (fun _ => 0))), (q9, .inl (Γ.2.2.2.2.2.2.2.2.2.2.2.1.1, 4, .inl (fun _ => 0))), (q10, .inl (Γ.2.2.2.2.2.2.2.2.2.2.2.1.1, 64, .inl (fun _ => 0)))] 11 784
  refine w_aload c dX3_init_92 ⟨0, rfl⟩ ?_
  refine w_iconst c (nI 4) dX3_init_93 (by decide) ?_
  refine w_newI c f (hR _ _ (by decide) (by decide)) (by decide) dX3_init_94 (fun q11 => ?_)
  refine w_putF c f (q0 := 0) fl_X3_43 rfl (Nat.le_of_ble_eq_true rfl) dX3_init_96 ⟨_, _, rfl⟩ m_608 ?_
  show JW Γ 99 [(0, .ref h0)] [] [(h0, .inr (3, [.int 0, .int 0, .ref q0, .ref q1, .ref q2, .ref q3, .int 0, .ref q4, .ref q5, .ref q6, .ref q7, .int 0, .ref q8, .ref q9, .int 0, .int 0, .ref q10, .ref q11, .null, .int 0, .int 0, .null, .int 0, .int 0, .null, .null])), (q0, .inl (Γ.2.2.2.2.2.2.2.2.2.2.2.1.1, 16, .inl (fun _ => 0))), (q1, .inl (Γ.2.2.2.2.2.2.2.2.2.2.2.1.1, 256, .inl (fun _ => 0))), (q2, .inl (Γ.2.2.2.2.2.2.2.2.2.2.2.1.1, 16, .inl (fun _ => 0))), (q3, .inl (Γ.2.2.2.2.2.2.2.2.2.2.2.1.1, 256, .inl (fun _ => 0))), (q4, .inl (Γ.2.2.2.2.2.2.2.2.2.2.2.1.1, 4, .inl (fun _ => 0))), (q5, .inl (Γ.2.2.2.2.2.2.2.2.2.2.2.1.1, 48, .inl (fun _ => 0))), (q6, .inl (Γ.2.2.2.2.2.2.2.2.2.2.2.1.1, 48, .inl (fun _ => 0))), (q7, .inl (Γ.2.2.2.2.2.2.2.2.2.2.2.1.1, 48, .inl (fun _ => 0))), (q8, .inl (Γ.2.2.2.2.2.2.2.2.2.2.2.1.1, 24, .inl (fun _ => 0))), (q9, .inl (Γ.2.2.2.2.2.2.2.2.2.2.2.1.1, 4, .inl (fun _ => 0))), (q10, .inl (Γ.2.2.2.2.2.2.2.2.2.2.2.1.1, 64, .inl (fun _ => 0))), (q11, .inl (Γ.2.2.2.2.2.2.2.2.2.2.2.1.1, 4, .inl (fun _ => 0)))] 12 788
  refine w_aload c dX3_init_99 ⟨0, rfl⟩ ?_
  refine w_iconst c (nI 4) dX3_init_100 (by decide) ?_
  refine w_newI c f (hR _ _ (by decide) (by decide)) (by decide) dX3_init_101 (fun q12 => ?_)
  refine w_putF c f (q0 := 0) fl_X3_46 rfl (Nat.le_of_ble_eq_true rfl) dX3_init_103 ⟨_, _, rfl⟩ m_609 ?_
  show JW Γ 106 [(0, .ref h0)] [] [(h0, .inr (3, [.int 0, .int 0, .ref q0, .ref q1, .ref q2, .ref q3, .int 0, .ref q4, .ref q5, .ref q6, .ref q7, .int 0, .ref q8, .ref q9, .int 0, .int 0, .ref q10, .ref q11, .ref q12, .int 0, .int 0, .null, .int 0, .int 0, .null, .null])), (q0, .inl (Γ.2.2.2.2.2.2.2.2.2.2.2.1.1, 16, .inl (fun _ => 0))), (q1, .inl (Γ.2.2.2.2.2.2.2.2.2.2.2.1.1, 256, .inl (fun _ => 0))), (q2, .inl (Γ.2.2.2.2.2.2.2.2.2.2.2.1.1, 16, .inl (fun _ => 0))), (q3, .inl (Γ.2.2.2.2.2.2.2.2.2.2.2.1.1, 256, .inl (fun _ => 0))), (q4, .inl (Γ.2.2.2.2.2.2.2.2.2.2.2.1.1, 4, .inl (fun _ => 0))), (q5, .inl (Γ.2.2.2.2.2.2.2.2.2.2.2.1.1, 48, .inl (fun _ => 0))), (q6, .inl (Γ.2.2.2.2.2.2.2.2.2.2.2.1.1, 48, .inl (fun _ => 0))), (q7, .inl (Γ.2.2.2.2.2.2.2.2.2.2.2.1.1, 48, .inl (fun _ => 0))), (q8, .inl (Γ.2.2.2.2.2.2.2.2.2.2.2.1.1, 24, .inl (fun _ => 0))), (q9, .inl (Γ.2.2.2.2.2.2.2.2.2.2.2.1.1, 4, .inl (fun _ => 0))), (q10, .inl (Γ.2.2.2.2.2.2.2.2.2.2.2.1.1, 64, .inl (fun _ => 0))), (q11, .inl (Γ.2.2.2.2.2.2.2.2.2.2.2.1.1, 4, .inl (fun _ => 0))), (q12, .inl (Γ.2.2.2.2.2.2.2.2.2.2.2.1.1, 4, .inl (fun _ => 0)))] 13 792
  refine w_aload c dX3_init_106 ⟨0, rfl⟩ ?_
  refine w_iconst c (-1) dX3_init_107 (by decide) ?_
  refine w_putI c (q0 := 0) fl_X3_49 rfl (Nat.le_of_ble_eq_true rfl) dX3_init_108 ?_
  show JW Γ 111 [(0, .ref h0)] [] [(h0, .inr (3, [.int 0, .int 0, .ref q0, .ref q1, .ref q2, .ref q3, .int 0, .ref q4, .ref q5, .ref q6, .ref q7, .int 0, .ref q8, .ref q9, .int 0, .int 0, .ref q10, .ref q11, .ref q12, .int (-1), .int 0, .null, .int 0, .int 0, .null, .null])), (q0, .inl (Γ.2.2.2.2.2.2.2.2.2.2.2.1.1, 16, .inl (fun _ => 0))), (q1, .inl (Γ.2.2.2.2.2.2.2.2.2.2.2.1.1, 256, .inl (fun _ => 0))), (q2, .inl (Γ.2.2.2.2.2.2.2.2.2.2.2.1.1, 16, .inl (fun _ => 0))), (q3, .inl (Γ.2.2.2.2.2.2.2.2.2.2.2.1.1, 256, .inl (fun _ => 0))), (q4, .inl (Γ.2.2.2.2.2.2.2.2.2.2.2.1.1, 4, .inl (fun _ => 0))), (q5, .inl (Γ.2.2.2.2.2.2.2.2.2.2.2.1.1, 48, .inl (fun _ => 0))), (q6, .inl (Γ.2.2.2.2.2.2.2.2.2.2.2.1.1, 48, .inl (fun _ => 0))), (q7, .inl (Γ.2.2.2.2.2.2.2.2.2.2.2.1.1, 48, .inl (fun _ => 0))), (q8, .inl (Γ.2.2.2.2.2.2.2.2.2.2.2.1.1, 24, .inl (fun _ => 0))), (q9, .inl (Γ.2.2.2.2.2.2.2.2.2.2.2.1.1, 4, .inl (fun _ => 0))), (q10, .inl (Γ.2.2.2.2.2.2.2.2.2.2.2.1.1, 64, .inl (fun _ => 0))), (q11, .inl (Γ.2.2.2.2.2.2.2.2.2.2.2.1.1, 4, .inl (fun _ => 0))), (q12, .inl (Γ.2.2.2.2.2.2.2.2.2.2.2.1.1, 4, .inl (fun _ => 0)))] 13 792
  refine w_aload c dX3_init_111 ⟨0, rfl⟩ ?_
  refine w_bipush c (nI 13) dX3_init_112 (by decide) ?_
  refine w_newI c f (hR _ _ (by decide) (by decide)) (by decide) dX3_init_114 (fun q13 => ?_)
  refine w_putF c f (q0 := 0) fl_X3_53 rfl (Nat.le_of_ble_eq_true rfl) dX3_init_116 ⟨_, _, rfl⟩ m_612 ?_
  show JW Γ 119 [(0, .ref h0)] [] [(h0, .inr (3, [.int 0, .int 0, .ref q0, .ref q1, .ref q2, .ref q3, .int 0, .ref q4, .ref q5, .ref q6, .ref q7, .int 0, .ref q8, .ref q9, .int 0, .int 0, .ref q10, .ref q11, .ref q12, .int (-1), .int 0, .ref q13, .int 0, .int 0, .null, .null])), (q0, .inl (Γ.2.2.2.2.2.2.2.2.2.2.2.1.1, 16, .inl (fun _ => 0))), (q1, .inl (Γ.2.2.2.2.2.2.2.2.2.2.2.1.1, 256, .inl (fun _ => 0))), (q2, .inl (Γ.2.2.2.2.2.2.2.2.2.2.2.1.1, 16, .inl (fun _ => 0))), (q3, .inl (Γ.2.2.2.2.2.2.2.2.2.2.2.1.1, 256, .inl (fun _ => 0))), (q4, .inl (Γ.2.2.2.2.2.2.2.2.2.2.2.1.1, 4, .inl (fun _ => 0))), (q5, .inl (Γ.2.2.2.2.2.2.2.2.2.2.2.1.1, 48, .inl (fun _ => 0))), (q6, .inl (Γ.2.2.2.2.2.2.2.2.2.2.2.1.1, 48, .inl (fun _ => 0))), (q7, .inl (Γ.2.2.2.2.2.2.2.2.2.2.2.1.1, 48, .inl (fun _ => 0))), (q8, .inl (Γ.2.2.2.2.2.2.2.2.2.2.2.1.1, 24, .inl (fun _ => 0))), (q9, .inl (Γ.2.2.2.2.2.2.2.2.2.2.2.1.1, 4, .inl (fun _ => 0))), (q10, .inl (Γ.2.2.2.2.2.2.2.2.2.2.2.1.1, 64, .inl (fun _ => 0))), (q11, .inl (Γ.2.2.2.2.2.2.2.2.2.2.2.1.1, 4, .inl (fun _ => 0))), (q12, .inl (Γ.2.2.2.2.2.2.2.2.2.2.2.1.1, 4, .inl (fun _ => 0))), (q13, .inl (Γ.2.2.2.2.2.2.2.2.2.2.2.1.1, 13, .inl (fun _ => 0)))] 14 805
  refine w_aload c dX3_init_119 ⟨0, rfl⟩ ?_
  refine w_sipush c (nI 4096) dX3_init_120 (by decide) ?_
  refine w_newI c f (hR _ _ (by decide) (by decide)) (by decide) dX3_init_123 (fun q14 => ?_)
  refine w_putF c f (q0 := 0) fl_X3_56 rfl (Nat.le_of_ble_eq_true rfl) dX3_init_125 ⟨_, _, rfl⟩ m_615 ?_
  show JW Γ 128 [(0, .ref h0)] [] [(h0, .inr (3, [.int 0, .int 0, .ref q0, .ref q1, .ref q2, .ref q3, .int 0, .ref q4, .ref q5, .ref q6, .ref q7, .int 0, .ref q8, .ref q9, .int 0, .int 0, .ref q10, .ref q11, .ref q12, .int (-1), .int 0, .ref q13, .int 0, .int 0, .ref q14, .null])), (q0, .inl (Γ.2.2.2.2.2.2.2.2.2.2.2.1.1, 16, .inl (fun _ => 0))), (q1, .inl (Γ.2.2.2.2.2.2.2.2.2.2.2.1.1, 256, .inl (fun _ => 0))), (q2, .inl (Γ.2.2.2.2.2.2.2.2.2.2.2.1.1, 16, .inl (fun _ => 0))), (q3, .inl (Γ.2.2.2.2.2.2.2.2.2.2.2.1.1, 256, .inl (fun _ => 0))), (q4, .inl (Γ.2.2.2.2.2.2.2.2.2.2.2.1.1, 4, .inl (fun _ => 0))), (q5, .inl (Γ.2.2.2.2.2.2.2.2.2.2.2.1.1, 48, .inl (fun _ => 0))), (q6, .inl (Γ.2.2.2.2.2.2.2.2.2.2.2.1.1, 48, .inl (fun _ => 0))), (q7, .inl (Γ.2.2.2.2.2.2.2.2.2.2.2.1.1, 48, .inl (fun _ => 0))), (q8, .inl (Γ.2.2.2.2.2.2.2.2.2.2.2.1.1, 24, .inl (fun _ => 0))), (q9, .inl (Γ.2.2.2.2.2.2.2.2.2.2.2.1.1, 4, .inl (fun _ => 0))), (q10, .inl (Γ.2.2.2.2.2.2.2.2.2.2.2.1.1, 64, .inl (fun _ => 0))), (q11, .inl (Γ.2.2.2.2.2.2.2.2.2.2.2.1.1, 4, .inl (fun _ => 0))), (q12, .inl (Γ.2.2.2.2.2.2.2.2.2.2.2.1.1, 4, .inl (fun _ => 0))), (q13, .inl (Γ.2.2.2.2.2.2.2.2.2.2.2.1.1, 13, .inl (fun _ => 0))), (q14, .inl (Γ.2.2.2.2.2.2.2.2.2.2.2.1.1, 4096, .inl (fun _ => 0)))] 15 4901
  refine w_aload c dX3_init_128 ⟨0, rfl⟩ ?_
  refine w_bipush c (nI 12) dX3_init_129 (by decide) ?_
  refine w_newI c f (hR _ _ (by decide) (by decide)) (by decide) dX3_init_131 (fun q15 => ?_)
  refine w_putF c f (q0 := 0) fl_X3_59 rfl (Nat.le_of_ble_eq_true rfl) dX3_init_133 ⟨_, _, rfl⟩ m_616 ?_
  show JW Γ 136 [(0, .ref h0)] [] [(h0, .inr (3, [.int 0, .int 0, .ref q0, .ref q1, .ref q2, .ref q3, .int 0, .ref q4, .ref q5, .ref q6, .ref q7, .int 0, .ref q8, .ref q9, .int 0, .int 0, .ref q10, .ref q11, .ref q12, .int (-1), .int 0, .ref q13, .int 0, .int 0, .ref q14, .ref q15])), (q0, .inl (Γ.2.2.2.2.2.2.2.2.2.2.2.1.1, 16, .inl (fun _ => 0))), (q1, .inl (Γ.2.2.2.2.2.2.2.2.2.2.2.1.1, 256, .inl (fun _ => 0))), (q2, .inl (Γ.2.2.2.2.2.2.2.2.2.2.2.1.1, 16, .inl (fun _ => 0))), (q3, .inl (Γ.2.2.2.2.2.2.2.2.2.2.2.1.1, 256, .inl (fun _ => 0))), (q4, .inl (Γ.2.2.2.2.2.2.2.2.2.2.2.1.1, 4, .inl (fun _ => 0))), (q5, .inl (Γ.2.2.2.2.2.2.2.2.2.2.2.1.1, 48, .inl (fun _ => 0))), (q6, .inl (Γ.2.2.2.2.2.2.2.2.2.2.2.1.1, 48, .inl (fun _ => 0))), (q7, .inl (Γ.2.2.2.2.2.2.2.2.2.2.2.1.1, 48, .inl (fun _ => 0))), (q8, .inl (Γ.2.2.2.2.2.2.2.2.2.2.2.1.1, 24, .inl (fun _ => 0))), (q9, .inl (Γ.2.2.2.2.2.2.2.2.2.2.2.1.1, 4, .inl (fun _ => 0))), (q10, .inl (Γ.2.2.2.2.2.2.2.2.2.2.2.1.1, 64, .inl (fun _ => 0))), (q11, .inl (Γ.2.2.2.2.2.2.2.2.2.2.2.1.1, 4, .inl (fun _ => 0))), (q12, .inl (Γ.2.2.2.2.2.2.2.2.2.2.2.1.1, 4, .inl (fun _ => 0))), (q13, .inl (Γ.2.2.2.2.2.2.2.2.2.2.2.1.1, 13, .inl (fun _ => 0))), (q14, .inl (Γ.2.2.2.2.2.2.2.2.2.2.2.1.1, 4096, .inl (fun _ => 0))), (q15, .inl (Γ.2.2.2.2.2.2.2.2.2.2.2.1.1, 12, .inl (fun _ => 0)))] 16 4913
  refine w_aload c dX3_init_136 ⟨0, rfl⟩ ?_
  refine w_getR c (q0 := 0) fl_X3_7 rfl rfl dX3_init_137 ?_
  refine w_iconst c (nI 0) dX3_init_140 (by decide) ?_
  refine w_iconst c (nI 1) dX3_init_141 (by decide) ?_
  refine w_iast c (q0 := 1) (j := 0) rfl rfl (by decide) (by decide) dX3_init_142 ?_
  show JW Γ 143 [(0, .ref h0)] [] [(h0, .inr (3, [.int 0, .int 0, .ref q0, .ref q1, .ref q2, .ref q3, .int 0, .ref q4, .ref q5, .ref q6, .ref q7, .int 0, .ref q8, .ref q9, .int 0, .int 0, .ref q10, .ref q11, .ref q12, .int (-1), .int 0, .ref q13, .int 0, .int 0, .ref q14, .ref q15])), (q0, .inl (Γ.2.2.2.2.2.2.2.2.2.2.2.1.1, 16, .inl (upd (fun _ => 0) 0 (nI 1)))), (q1, .inl (Γ.2.2.2.2.2.2.2.2.2.2.2.1.1, 256, .inl (fun _ => 0))), (q2, .inl (Γ.2.2.2.2.2.2.2.2.2.2.2.1.1, 16, .inl (fun _ => 0))), (q3, .inl (Γ.2.2.2.2.2.2.2.2.2.2.2.1.1, 256, .inl (fun _ => 0))), (q4, .inl (Γ.2.2.2.2.2.2.2.2.2.2.2.1.1, 4, .inl (fun _ => 0))), (q5, .inl (Γ.2.2.2.2.2.2.2.2.2.2.2.1.1, 48, .inl (fun _ => 0))), (q6, .inl (Γ.2.2.2.2.2.2.2.2.2.2.2.1.1, 48, .inl (fun _ => 0))), (q7, .inl (Γ.2.2.2.2.2.2.2.2.2.2.2.1.1, 48, .inl (fun _ => 0))), (q8, .inl (Γ.2.2.2.2.2.2.2.2.2.2.2.1.1, 24, .inl (fun _ => 0))), (q9, .inl (Γ.2.2.2.2.2.2.2.2.2.2.2.1.1, 4, .inl (fun _ => 0))), (q10, .inl (Γ.2.2.2.2.2.2.2.2.2.2.2.1.1, 64, .inl (fun _ => 0))), (q11, .inl (Γ.2.2.2.2.2.2.2.2.2.2.2.1.1, 4, .inl (fun _ => 0))), (q12, .inl (Γ.2.2.2.2.2.2.2.2.2.2.2.1.1, 4, .inl (fun _ => 0))), (q13, .inl (Γ.2.2.2.2.2.2.2.2.2.2.2.1.1, 13, .inl (fun _ => 0))), (q14, .inl (Γ.2.2.2.2.2.2.2.2.2.2.2.1.1, 4096, .inl (fun _ => 0))), (q15, .inl (Γ.2.2.2.2.2.2.2.2.2.2.2.1.1, 12, .inl (fun _ => 0)))] 16 4913
  refine w_aload c dX3_init_143 ⟨0, rfl⟩ ?_
  refine w_getR c (q0 := 0) fl_X3_16 rfl rfl dX3_init_144 ?_
  refine w_iconst c (nI 0) dX3_init_147 (by decide) ?_
  refine w_iconst c (nI 1) dX3_init_148 (by decide) ?_
  refine w_iast c (q0 := 3) (j := 0) rfl rfl (by decide) (by decide) dX3_init_149 ?_
  show JW Γ 150 [(0, .ref h0)] [] [(h0, .inr (3, [.int 0, .int 0, .ref q0, .ref q1, .ref q2, .ref q3, .int 0, .ref q4, .ref q5, .ref q6, .ref q7, .int 0, .ref q8, .ref q9, .int 0, .int 0, .ref q10, .ref q11, .ref q12, .int (-1), .int 0, .ref q13, .int 0, .int 0, .ref q14, .ref q15])), (q0, .inl (Γ.2.2.2.2.2.2.2.2.2.2.2.1.1, 16, .inl (upd (fun _ => 0) 0 (nI 1)))), (q1, .inl (Γ.2.2.2.2.2.2.2.2.2.2.2.1.1, 256, .inl (fun _ => 0))), (q2, .inl (Γ.2.2.2.2.2.2.2.2.2.2.2.1.1, 16, .inl (upd (fun _ => 0) 0 (nI 1)))), (q3, .inl (Γ.2.2.2.2.2.2.2.2.2.2.2.1.1, 256, .inl (fun _ => 0))), (q4, .inl (Γ.2.2.2.2.2.2.2.2.2.2.2.1.1, 4, .inl (fun _ => 0))), (q5, .inl (Γ.2.2.2.2.2.2.2.2.2.2.2.1.1, 48, .inl (fun _ => 0))), (q6, .inl (Γ.2.2.2.2.2.2.2.2.2.2.2.1.1, 48, .inl (fun _ => 0))), (q7, .inl (Γ.2.2.2.2.2.2.2.2.2.2.2.1.1, 48, .inl (fun _ => 0))), (q8, .inl (Γ.2.2.2.2.2.2.2.2.2.2.2.1.1, 24, .inl (fun _ => 0))), (q9, .inl (Γ.2.2.2.2.2.2.2.2.2.2.2.1.1, 4, .inl (fun _ => 0))), (q10, .inl (Γ.2.2.2.2.2.2.2.2.2.2.2.1.1, 64, .inl (fun _ => 0))), (q11, .inl (Γ.2.2.2.2.2.2.2.2.2.2.2.1.1, 4, .inl (fun _ => 0))), (q12, .inl (Γ.2.2.2.2.2.2.2.2.2.2.2.1.1, 4, .inl (fun _ => 0))), (q13, .inl (Γ.2.2.2.2.2.2.2.2.2.2.2.1.1, 13, .inl (fun _ => 0))), (q14, .inl (Γ.2.2.2.2.2.2.2.2.2.2.2.1.1, 4096, .inl (fun _ => 0))), (q15, .inl (Γ.2.2.2.2.2.2.2.2.2.2.2.1.1, 12, .inl (fun _ => 0)))] 16 4913
  refine w_aload c dX3_init_150 ⟨0, rfl⟩ ?_
  refine w_iconst c (nI 1) dX3_init_151 (by decide) ?_
  refine w_putI c (q0 := 0) fl_X3_62 rfl (Nat.le_of_ble_eq_true rfl) dX3_init_152 ?_
  show JW Γ 155 [(0, .ref h0)] [] [(h0, .inr (3, [.int 0, .int (nI 1), .ref q0, .ref q1, .ref q2, .ref q3, .int 0, .ref q4, .ref q5, .ref q6, .ref q7, .int 0, .ref q8, .ref q9, .int 0, .int 0, .ref q10, .ref q11, .ref q12, .int (-1), .int 0, .ref q13, .int 0, .int 0, .ref q14, .ref q15])), (q0, .inl (Γ.2.2.2.2.2.2.2.2.2.2.2.1.1, 16, .inl (upd (fun _ => 0) 0 (nI 1)))), (q1, .inl (Γ.2.2.2.2.2.2.2.2.2.2.2.1.1, 256, .inl (fun _ => 0))), (q2, .inl (Γ.2.2.2.2.2.2.2.2.2.2.2.1.1, 16, .inl (upd (fun _ => 0) 0 (nI 1)))), (q3, .inl (Γ.2.2.2.2.2.2.2.2.2.2.2.1.1, 256, .inl (fun _ => 0))), (q4, .inl (Γ.2.2.2.2.2.2.2.2.2.2.2.1.1, 4, .inl (fun _ => 0))), (q5, .inl (Γ.2.2.2.2.2.2.2.2.2.2.2.1.1, 48, .inl (fun _ => 0))), (q6, .inl (Γ.2.2.2.2.2.2.2.2.2.2.2.1.1, 48, .inl (fun _ => 0))), (q7, .inl (Γ.2.2.2.2.2.2.2.2.2.2.2.1.1, 48, .inl (fun _ => 0))), (q8, .inl (Γ.2.2.2.2.2.2.2.2.2.2.2.1.1, 24, .inl (fun _ => 0))), (q9, .inl (Γ.2.2.2.2.2.2.2.2.2.2.2.1.1, 4, .inl (fun _ => 0))), (q10, .inl (Γ.2.2.2.2.2.2.2.2.2.2.2.1.1, 64, .inl (fun _ => 0))), (q11, .inl (Γ.2.2.2.2.2.2.2.2.2.2.2.1.1, 4, .inl (fun _ => 0))), (q12, .inl (Γ.2.2.2.2.2.2.2.2.2.2.2.1.1, 4, .inl (fun _ => 0))), (q13, .inl (Γ.2.2.2.2.2.2.2.2.2.2.2.1.1, 13, .inl (fun _ => 0))), (q14, .inl (Γ.2.2.2.2.2.2.2.2.2.2.2.1.1, 4096, .inl (fun _ => 0))), (q15, .inl (Γ.2.2.2.2.2.2.2.2.2.2.2.1.1, 12, .inl (fun _ => 0)))] 16 4913
  exact w_ret c r dX3_init_155 ⟨q0, q1, q2, q3, q4, q5, q6, q7, q8, q9, q10, q11, q12, q13, q14, q15, rfl⟩
