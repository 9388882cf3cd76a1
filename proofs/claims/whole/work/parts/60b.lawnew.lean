-- ===== 60b: objects and rows made by the law =====
def FrL (Γ : Gm) : Prop := match Γ with
  | (_, _, _, _, s, _, _, _, _, _, _, K, _, A, _, _, _, _) => (∀ q, s.heap.size ≤ q → A q) ∧ Nm K s
theorem KN2.blind {D : va_G} {K : CK} {sz : Nat} {ws : va_W} {av : List Value} : FrameBlind (va_Pc av (fun U => U.heap.size = sz ∧ va_P D vwCl ws U.heap ∧ KN D K U ∧ va_AO RX1 U)) := fun _ U g mk q => by
  obtain ⟨q0, qz, qP, ⟨qK, qN, qM⟩, qA⟩ := q
  exact ⟨q0, qz, qP, ⟨va_K.moved (u := U) (Vm.Alike.refl U.vm) qK, Nst.same (u := U) rfl qN, Nm.moved (u := U) (Vm.Alike.refl U.vm) qM⟩, va_AO.moved (u := U) (Vm.Alike.refl U.vm) qA⟩
section LawNew
variable {Γ : Gm} {own : String} {cc : ByteArray} {d pc k n : Nat} {lv : List (Nat × Value)} {st : List Value} {ws ws1 : va_W}
/-- .. by a method that is no constructor -/
theorem w_initL (hc : Cx Γ own cc d) (hf : FrL Γ) {y : MethodName} {bytes : ByteArray} {maxL d' mc ms index q : Nat} {ws0 : Nat → va_W} {post : Nat → CK → va_W → Prop} {e0 : va_E} (hM : SpN y bytes maxL d' mc ms ws0 post) (hw0 : ws0 q = [(q, e0)]) (hw : Cond.methodLink own index y ∈ TT ∧ Cond.instanceMethod y ∈ TT ∧ Cond.initialized y.cls ∈ TT ∧ Cond.code y bytes maxL none ∈ TT ∧ (y.cls ≠ "java/lang/invoke/MethodHandle" ∧ y.cls ≠ "java/lang/invoke/VarHandle" ∧ (parseMethodDescriptor y.desc).map (fun d => d.parameters.length) = some 0) ∧ y.name = "<init>" ∧ maxL ≤ 19) (hd : decode cc pc = .ok (.invokespecial index, 3)) (hdd : d' + 1 ≤ d) (hr : Rm Γ (k + mc) (n + ms)) (hst : (st.map fun v => v.category).sum ≤ 8)
    (n1 : ∀ ws2 : va_W, post q Γ.2.2.2.2.2.2.2.2.2.2.2.1 ws2 → JW Γ (pc + 3) lv st (ws1 ++ ws2) (k + mc) (n + ms)) : JW Γ pc lv (.ref q :: st) (ws1 ++ [(q, e0)]) k n := by
  obtain ⟨p, l, e, R, s, m, args, below, meth, c, D, K, ad, A, nL, cells, slots, Q⟩ := Γ
  obtain ⟨hx, hb, hml, hown, hts, hK, hA, hfr, hlo, hce, hsl⟩ := hc
  obtain ⟨f1, f2⟩ := hf
  obtain ⟨r1, r2⟩ := hr
  obtain ⟨w0, w1, w4, w3, w5, w6, w7⟩ := hw
  intro H locs ls hP hD hS hl
  have hgood : GoodIn TT (Cond.code y bytes maxL none :: TT) := TT_good (fun w hw => by
    rcases List.mem_cons.mp hw with rfl | h
    · exact w3
    · exact h) (fun w h => h)
  have hroom : d' + 1 ≤ R.frames ∧ 8 + (maxL + 11) + 38 * d' ≤ R.locals := ⟨by omega, by omega⟩
  have hPq : va_P D vwCl (ws0 q) H := by
    rw [hw0]
    intro i x hx9
    have hz : i < 1 := (List.getElem?_eq_some_iff.mp hx9).1
    rw [show i = 0 by omega] at hx9
    cases hx9
    exact hP ws1.length (q, e0) (by rw [List.getElem?_append_right (Nat.le_refl _), Nat.sub_self]; rfl)
  have hrun := va_runI (As := []) (rest := st) (b := q) (g := F0 m pc ls (.ref q :: st)) (H := H) (locs := locs) (cells := k) (slots := n) (below := below) (meth := meth) (e := e) ⟨hx, hb, hml, hown, hts⟩ (hM l D K q H.size) ⟨callB_of 0 hts hgood rfl rfl rfl (hts _ w4) (hts _ w0) w5 hroom, w6, hts _ w1⟩
    ⟨KN.blind, fun U hU hW => ⟨rfl, by rw [hU], by rw [hU]; exact hPq, KN.warm hW ⟨hK.1, hK.2.1, f2⟩⟩⟩ rfl rfl hl.1 rfl (lv_room hst) hd ⟨r1, r2⟩
  exact ww_call hrun hP hD hS f1 (fun ws2 hp H1 locs1 hP1 hD1 hS1 => n1 ws2 hp H1 locs1 ls hP1 hD1 hS1 hl)
/-- .. by a method that is no constructor -/
theorem w_initL2 (hc : Cx Γ own cc d) (hf : FrL Γ) {y : MethodName} {bytes : ByteArray} {maxL d' mc ms index q : Nat} {ws0 : Nat → va_W} {post : Nat → CK → va_W → Prop} {e0 : va_E} (hao : match Γ with | (_, _, _, _, s, _, _, _, _, _, _, _, _, _, _, _, _, _) => va_AO RX1 s) (hM : SpN2 y bytes maxL d' mc ms ws0 post) (hw0 : ws0 q = [(q, e0)]) (hw : Cond.methodLink own index y ∈ TT ∧ Cond.instanceMethod y ∈ TT ∧ Cond.initialized y.cls ∈ TT ∧ Cond.code y bytes maxL none ∈ TT ∧ (y.cls ≠ "java/lang/invoke/MethodHandle" ∧ y.cls ≠ "java/lang/invoke/VarHandle" ∧ (parseMethodDescriptor y.desc).map (fun d => d.parameters.length) = some 0) ∧ y.name = "<init>" ∧ maxL ≤ 19) (hd : decode cc pc = .ok (.invokespecial index, 3)) (hdd : d' + 1 ≤ d) (hr : Rm Γ (k + mc) (n + ms)) (hst : (st.map fun v => v.category).sum ≤ 8)
    (n1 : ∀ ws2 : va_W, post q Γ.2.2.2.2.2.2.2.2.2.2.2.1 ws2 → JW Γ (pc + 3) lv st (ws1 ++ ws2) (k + mc) (n + ms)) : JW Γ pc lv (.ref q :: st) (ws1 ++ [(q, e0)]) k n := by
  obtain ⟨p, l, e, R, s, m, args, below, meth, c, D, K, ad, A, nL, cells, slots, Q⟩ := Γ
  obtain ⟨hx, hb, hml, hown, hts, hK, hA, hfr, hlo, hce, hsl⟩ := hc
  obtain ⟨f1, f2⟩ := hf
  obtain ⟨r1, r2⟩ := hr
  obtain ⟨w0, w1, w4, w3, w5, w6, w7⟩ := hw
  intro H locs ls hP hD hS hl
  have hgood : GoodIn TT (Cond.code y bytes maxL none :: TT) := TT_good (fun w hw => by
    rcases List.mem_cons.mp hw with rfl | h
    · exact w3
    · exact h) (fun w h => h)
  have hroom : d' + 1 ≤ R.frames ∧ 8 + (maxL + 11) + 38 * d' ≤ R.locals := ⟨by omega, by omega⟩
  have hPq : va_P D vwCl (ws0 q) H := by
    rw [hw0]
    intro i x hx9
    have hz : i < 1 := (List.getElem?_eq_some_iff.mp hx9).1
    rw [show i = 0 by omega] at hx9
    cases hx9
    exact hP ws1.length (q, e0) (by rw [List.getElem?_append_right (Nat.le_refl _), Nat.sub_self]; rfl)
  have hrun := va_runI (As := []) (rest := st) (b := q) (g := F0 m pc ls (.ref q :: st)) (H := H) (locs := locs) (cells := k) (slots := n) (below := below) (meth := meth) (e := e) ⟨hx, hb, hml, hown, hts⟩ (hM l D K q H.size) ⟨callB_of 0 hts hgood rfl rfl rfl (hts _ w4) (hts _ w0) w5 hroom, w6, hts _ w1⟩
    ⟨KN2.blind, fun U hU hW => ⟨rfl, by rw [hU], by rw [hU]; exact hPq, KN.warm hW ⟨hK.1, hK.2.1, f2⟩, va_AO.moved hW.alike hao⟩⟩ rfl rfl hl.1 rfl (lv_room hst) hd ⟨r1, r2⟩
  exact ww_call hrun hP hD hS f1 (fun ws2 hp H1 locs1 hP1 hD1 hS1 => n1 ws2 hp H1 locs1 ls hP1 hD1 hS1 hl)
/-- a new row of longs -/
theorem w_newL (hc : Cx Γ own cc d) (hf : FrL Γ) {N : Nat} (hr : Rm Γ (k + 1) (n + N)) (hN : N ≤ 4096) (hd : decode cc pc = .ok (.newarray .long, 2)) (n1 : ∀ q : Nat, JW Γ (pc + 2) lv (.ref q :: st) (ws ++ [(q, .inl (Γ.2.2.2.2.2.2.2.2.2.2.2.1.2.2.2, N, .inr (.inl (fun _ => 0))))]) (k + 1) (n + N)) : JW Γ pc lv (.int (nI N) :: st) ws k n := by
  obtain ⟨p, l, e, R, s, m, args, below, meth, c, D, K, ad, A, nL, cells, slots, Q⟩ := Γ
  obtain ⟨hx, hb, hml, hown, hts, hK, hA, hfr, hlo, hce, hsl⟩ := hc
  obtain ⟨f1, f2⟩ := hf
  obtain ⟨r1, r2⟩ := hr
  intro H locs ls hP hD hS hl
  refine va_newaK (atype := .long) (g := F0 m pc ls (.int (nI N) :: st)) hx hb (hts _ aJ) rfl hd rfl (nI_pos (by omega)) (nI_clamp (n := N) (by omega)) (by show N * 8 ≤ _; omega) r1 r2 rfl fun H1 cA e1 z1 o1 hAr hNm => ?_
  have hcA : cA = K.2.2.2 := Option.some.inj (hNm.symm.trans f2.2.2)
  subst hcA
  have hk : ∀ (k : Nat) (x : Nat × va_E), ws[k]? = some x → H1[x.1]? = H[x.1]? := fun k x hx => o1 x.1 ((hP k x hx).lt)
  refine n1 H.size H1 locs ls ((hP.kept hk).app (fun k x hx => ?_)) (hD.push hP rfl (f1 _ hS.1)) ⟨Nat.le_trans hS.1 (by omega), fun x h1 h2 => (o1 x (Nat.lt_of_lt_of_le h1 hS.1)).trans (hS.2.1 x h1 h2), hS.2.2⟩ hl
  have hz : k < 1 := (List.getElem?_eq_some_iff.mp hx).1
  rw [show k = 0 by omega] at hx
  cases hx
  exact e1
theorem w_astore (hc : Cx Γ own cc d) {i : Fin 4} {v : Nat} {lv' : List (Nat × Value)} (hd : decode cc pc = .ok (.astore_n i, 1)) (hi : match Γ with | (_, _, _, _, _, _, _, _, _, _, _, _, _, _, nL, _, _, _) => (i : Nat) < nL) (hl' : ((i : Nat), Value.ref v) :: lv.filter (fun q => !(q.1 == (i : Nat)) && !(q.1 + 1 == (i : Nat) && q.2.category == 2)) = lv') (n1 : JW Γ (pc + 1) lv' st ws k n) : JW Γ pc lv (.ref v :: st) ws k n := by
  obtain ⟨p, l, e, R, s, m, args, below, meth, c, D, K, ad, A, nL, cells, slots, Q⟩ := Γ
  obtain ⟨hx, hb, hml, hown, hts, hK, hA, hfr, hlo, hce, hsl⟩ := hc
  intro H locs ls hP hD hS hl
  exact lv_astore_n hx hb hd rfl hl hi hl' (fun ls' h' => n1 H locs ls' hP hD hS h')
end LawNew
