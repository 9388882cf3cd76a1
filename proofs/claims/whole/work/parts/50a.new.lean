-- ===== 50a: worlds that grow: rules for constructors =====
/-- the classes of rows, by their names -/
def Nm (K : CK) (U : State) : Prop := U.vm.findClass ("[" ++ (FieldType.int).toString) = some K.1 ∧ U.vm.findClass ("[" ++ (FieldType.boolean).toString) = some K.2.1 ∧ U.vm.findClass ("[" ++ (FieldType.long).toString) = some K.2.2.2
theorem Nm.moved {K : CK} {u U : State} (h : u.vm.Alike U.vm) (hN : Nm K u) : Nm K U := ⟨by rw [h.findClass]; exact hN.1, by rw [h.findClass]; exact hN.2.1, by rw [h.findClass]; exact hN.2.2⟩
/-- the machine at pc, with the locals lv, the stack st, the cells ws, after k new cells of n slots in all -/
def JW (Γ : Gm) (pc : Nat) (lv : List (Nat × Value)) (st : List Value) (ws : va_W) (k n : Nat) : Prop := match Γ with
  | (p, l, e, R, s, m, args, below, meth, c, D, _, _, A, nL, _, _, Q) => ∀ (H : Heap) (locs : List Loc) (ls : Array Slot), va_P D vwCl ws H → va_D A ws → va_S A s.heap H locs → lv_has ls nL lv → W p l e R s m args below meth c H locs k n Q (F0 m pc ls st)
/-- new cells are ours; rows' classes; we are a constructor of own -/
def Fr (Γ : Gm) : Prop := match Γ with
  | (_, _, _, _, s, _, _, _, meth, _, _, K, _, A, _, _, _, _) => (∀ q, s.heap.size ≤ q → A q) ∧ Nm K s ∧ meth.name = "<init>"
def Rm (Γ : Gm) (k n : Nat) : Prop := match Γ with
  | (_, _, _, R, _, _, _, _, _, _, _, _, _, _, _, _, _, _) => k ≤ R.cells ∧ n ≤ R.slots
section NewRules
variable {Γ : Gm} {own : String} {cc : ByteArray} {d pc k n : Nat} {lv : List (Nat × Value)} {st : List Value} {ws : va_W}
theorem w_aload (hc : Cx Γ own cc d) {i : Fin 4} {a : Nat} (hd : decode cc pc = .ok (.aload_n i, 1)) (hi : ∃ j : Nat, lv[j]? = some ((i : Nat), Value.ref a)) (n1 : JW Γ (pc + 1) lv (.ref a :: st) ws k n) : JW Γ pc lv st ws k n := by
  obtain ⟨p, l, e, R, s, m, args, below, meth, c, D, K, ad, A, nL, cells, slots, Q⟩ := Γ
  obtain ⟨hx, hb, hml, hown, hts, hK, hA, hfr, hlo, hce, hsl⟩ := hc
  obtain ⟨j, hj⟩ := hi
  intro H locs ls hP hD hS hl
  exact lv_aload_n hx hb hd rfl (lv_at hl j hj) (n1 H locs ls hP hD hS hl)
theorem w_iconst (hc : Cx Γ own cc d) {z : Int} (v : Int32) (hd : decode cc pc = .ok (.iconst z, 1)) (hv : Int32.ofInt z = v) (n1 : JW Γ (pc + 1) lv (.int v :: st) ws k n) : JW Γ pc lv st ws k n := by
  obtain ⟨p, l, e, R, s, m, args, below, meth, c, D, K, ad, A, nL, cells, slots, Q⟩ := Γ
  obtain ⟨hx, hb, hml, hown, hts, hK, hA, hfr, hlo, hce, hsl⟩ := hc
  intro H locs ls hP hD hS hl
  exact lv_iconst hx hb hd hv (n1 H locs ls hP hD hS hl)
theorem w_bipush (hc : Cx Γ own cc d) {z : Int} (v : Int32) (hd : decode cc pc = .ok (.bipush z, 2)) (hv : (Int8.ofInt z).toInt32 = v) (n1 : JW Γ (pc + 2) lv (.int v :: st) ws k n) : JW Γ pc lv st ws k n := by
  obtain ⟨p, l, e, R, s, m, args, below, meth, c, D, K, ad, A, nL, cells, slots, Q⟩ := Γ
  obtain ⟨hx, hb, hml, hown, hts, hK, hA, hfr, hlo, hce, hsl⟩ := hc
  intro H locs ls hP hD hS hl
  exact lv_bipush hx hb hd hv (n1 H locs ls hP hD hS hl)
theorem w_sipush (hc : Cx Γ own cc d) {z : Int} (v : Int32) (hd : decode cc pc = .ok (.sipush z, 3)) (hv : (Int16.ofInt z).toInt32 = v) (n1 : JW Γ (pc + 3) lv (.int v :: st) ws k n) : JW Γ pc lv st ws k n := by
  obtain ⟨p, l, e, R, s, m, args, below, meth, c, D, K, ad, A, nL, cells, slots, Q⟩ := Γ
  obtain ⟨hx, hb, hml, hown, hts, hK, hA, hfr, hlo, hce, hsl⟩ := hc
  intro H locs ls hP hD hS hl
  exact lv_sipush hx hb hd hv (n1 H locs ls hP hD hS hl)
theorem aI : Cond.arrayClass .int ∈ TT := TT_in (by decide +kernel) (by decide +kernel)
/-- a new row of ints -/
theorem w_newI (hc : Cx Γ own cc d) (hf : Fr Γ) {N : Nat} (hr : Rm Γ (k + 1) (n + N)) (hN : N ≤ 4096) (hd : decode cc pc = .ok (.newarray .int, 2)) (n1 : ∀ q : Nat, JW Γ (pc + 2) lv (.ref q :: st) (ws ++ [(q, .inl (Γ.2.2.2.2.2.2.2.2.2.2.2.1.1, N, .inl (fun _ => 0)))]) (k + 1) (n + N)) : JW Γ pc lv (.int (nI N) :: st) ws k n := by
  obtain ⟨p, l, e, R, s, m, args, below, meth, c, D, K, ad, A, nL, cells, slots, Q⟩ := Γ
  obtain ⟨hx, hb, hml, hown, hts, hK, hA, hfr, hlo, hce, hsl⟩ := hc
  obtain ⟨f1, f2, f3⟩ := hf
  obtain ⟨r1, r2⟩ := hr
  intro H locs ls hP hD hS hl
  refine va_newaK (atype := .int) (g := F0 m pc ls (.int (nI N) :: st)) hx hb (hts _ aI) rfl hd rfl (nI_pos (by omega)) (nI_clamp (n := N) (by omega)) (by show N * 4 ≤ _; omega) r1 r2 rfl fun H1 cA e1 z1 o1 hAr hNm => ?_
  have hcA : cA = K.1 := Option.some.inj (hNm.symm.trans f2.1)
  subst hcA
  have hk : ∀ (k : Nat) (x : Nat × va_E), ws[k]? = some x → H1[x.1]? = H[x.1]? := fun k x hx => o1 x.1 ((hP k x hx).lt)
  refine n1 H.size H1 locs ls ((hP.kept hk).app (fun k x hx => ?_)) (hD.push hP rfl (f1 _ hS.1)) ⟨Nat.le_trans hS.1 (by omega), fun x h1 h2 => (o1 x (Nat.lt_of_lt_of_le h1 hS.1)).trans (hS.2.1 x h1 h2), hS.2.2⟩ hl
  have hz : k < 1 := (List.getElem?_eq_some_iff.mp hx).1
  rw [show k = 0 by omega] at hx
  cases hx
  exact e1
/-- a final field of references is set, in its constructor -/
theorem w_putF (hc : Cx Γ own cc d) (hf : Fr Γ) {q0 a v ci j index : Nat} {E : FieldType} {fs : List Value} (hF : Fld own index ci j true (.array E)) (hw : ws[q0]? = some (a, .inr (ci, fs))) (hj : j < fs.length) (hd : decode cc pc = .ok (.putfield index, 3)) (hcl : ∃ T N, vwCl[ci]? = some (own, T, N)) (hnl : Cond.fieldLink own index own ((vwCl[ci]?.map (fun q => (q.2.1 j).2.1)).getD "") ((vwCl[ci]?.map (fun q => (q.2.1 j).2.2.1)).getD "") ∈ TT) (n1 : JW Γ (pc + 3) lv st (ws.set q0 (a, .inr (ci, fs.set j (.ref v)))) k n) : JW Γ pc lv (.ref v :: .ref a :: st) ws k n := by
  obtain ⟨p, l, e, R, s, m, args, below, meth, c, D, K, ad, A, nL, cells, slots, Q⟩ := Γ
  obtain ⟨hx, hb, hml, hown, hts, hK, hA, hfr, hlo, hce, hsl⟩ := hc
  obtain ⟨f1, f2, f3⟩ := hf
  obtain ⟨C, T, N, tyX, g1, g2, g3, g4, g5, g6, g7, g8, g9⟩ := hF
  obtain ⟨T', N', h1⟩ := hcl
  have hT : (C, T, N) = (own, T', N') := Option.some.inj (g1.symm.trans h1)
  cases hT
  rw [g1] at hnl
  intro H locs ls hP hD hS hl
  have hty : parseFieldDescriptor (T j).2.2.1 = some (.array E) := by rw [g4 j g2, g9]
  exact va_putF (v := .ref v) (ty := .array E) hx hb hts g3 tyX g4 g5 hown hK.1 hP hD hS q0 hw g1 j g2 (hts _ hnl) (fun x h => by rw [g6] at h; exact h) g8 f3 g6 hty rfl rfl hj hd (fun H1 locs1 hP1 hD1 hS1 => n1 H1 locs1 ls hP1 hD1 hS1 hl)
end NewRules
