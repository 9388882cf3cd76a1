-- ===== 50c: constructors called =====
theorem D_app {A B : Nat → Prop} {w1 w2 : va_W} (h1 : va_D A w1) (h2 : va_D B w2) (hx : ∀ (i j : Nat) (x y : Nat × va_E), w1[i]? = some x → w2[j]? = some y → x.1 ≠ y.1) (hB : ∀ q, B q → A q) : va_D A (w1 ++ w2) := by
  have key : ∀ (k : Nat) (x : Nat × va_E), (w1 ++ w2)[k]? = some x → (k < w1.length ∧ w1[k]? = some x) ∨ (w1.length ≤ k ∧ w2[k - w1.length]? = some x) := fun k x hk => by
    by_cases h : k < w1.length
    · rw [List.getElem?_append_left h] at hk; exact Or.inl ⟨h, hk⟩
    · rw [List.getElem?_append_right (by omega)] at hk; exact Or.inr ⟨by omega, hk⟩
  refine ⟨fun i j x y hi hj he => ?_, fun k x hk => ?_⟩
  · rcases key i x hi with ⟨a1, b1⟩ | ⟨a1, b1⟩ <;> rcases key j y hj with ⟨a2, b2⟩ | ⟨a2, b2⟩
    · exact h1.1 i j x y b1 b2 he
    · exact absurd he (hx _ _ x y b1 b2)
    · exact absurd he.symm (hx _ _ y x b2 b1)
    · have := h2.1 _ _ x y b1 b2 he; omega
  · rcases key k x hk with ⟨a1, b1⟩ | ⟨a1, b1⟩
    · exact h1.2 _ x b1
    · exact hB _ (h2.2 _ x b1)
theorem KN.blind {D : va_G} {K : CK} {sz : Nat} {ws : va_W} {av : List Value} : FrameBlind (va_Pc av (fun U => U.heap.size = sz ∧ va_P D vwCl ws U.heap ∧ KN D K U)) := fun _ U g mk q => by
  obtain ⟨q0, qz, qP, qK, qN, qM⟩ := q
  exact ⟨q0, qz, qP, va_K.moved (u := U) (Vm.Alike.refl U.vm) qK, Nst.same (u := U) rfl qN, Nm.moved (u := U) (Vm.Alike.refl U.vm) qM⟩
theorem KN.warm {D : va_G} {K : CK} {s U : State} (hW : s.WarmedH U.vm) (h : KN D K s) : KN D K U := ⟨va_K.moved hW.alike h.1, h.2.1.warm hW, h.2.2.moved hW.alike⟩
/-- behind a constructor's call -/
theorem ww_call {p : Program} {l : Launch} {e : Env} {R : Room} {s : State} {m : MethodId} {args : Array Value} {below : List Frame} {meth : Method} {c : Code} {H : Heap} {locs : List Loc} {cells slots mc ms : Nat} {Q : State → Prop} {D : va_G} {K : CK} {A : Nat → Prop} {post : Nat → CK → va_W → Prop} {a : Array Value} {pc q : Nat} {ls : Array Slot} {st0 rest : List Value} {ws1 : va_W} {e0 : va_E}
    (hr : va_Run p l e R s m args below meth c H locs cells slots mc ms (F0 m pc ls st0) rest (QN D K q H.size post a) (fun x => x = q ∨ H.size ≤ x)) (hP : va_P D vwCl (ws1 ++ [(q, e0)]) H) (hD : va_D A (ws1 ++ [(q, e0)])) (hS : va_S A s.heap H locs) (hA : ∀ x, s.heap.size ≤ x → A x)
    (kk : ∀ ws2 : va_W, post q K ws2 → ∀ (H1 : Heap) (locs1 : List Loc), va_P D vwCl (ws1 ++ ws2) H1 → va_D A (ws1 ++ ws2) → va_S A s.heap H1 locs1 → W p l e R s m args below meth c H1 locs1 (cells + mc) (slots + ms) Q (F0 m (pc + 3) ls rest)) : W p l e R s m args below meth c H locs cells slots Q (F0 m pc ls st0) := by
  intro T hT X
  obtain ⟨v, st₀, t, T', Lx, h0, X', hL, e1, e2, ⟨hv, ⟨ws2, hp, hb, hD2⟩, hz, hk⟩, stp⟩ := hr T hT X
  cases hv
  rw [h0] at hz hk
  have hAq : A q := hD.2 ws1.length (q, e0) (by rw [List.getElem?_append_right (Nat.le_refl _), Nat.sub_self]; rfl)
  have hB : ∀ x, (x = q ∨ H.size ≤ x) → A x := fun x hx => by
    rcases hx with rfl | hx
    · exact hAq
    · exact hA x (Nat.le_trans hS.1 hx)
  have h1l : ∀ (i : Nat) (x : Nat × va_E), ws1[i]? = some x → (ws1 ++ [(q, e0)])[i]? = some x ∧ i < ws1.length := fun i x hx => by
    have hl := (List.getElem?_eq_some_iff.mp hx).1
    exact ⟨by rw [List.getElem?_append_left hl]; exact hx, hl⟩
  have hne : ∀ (i : Nat) (x : Nat × va_E), ws1[i]? = some x → x.1 < H.size ∧ x.1 ≠ q := fun i x hx => by
    obtain ⟨g1, g2⟩ := h1l i x hx
    refine ⟨(hP i x g1).lt, fun hq => ?_⟩
    have := hD.1 i ws1.length x (q, e0) g1 (by rw [List.getElem?_append_right (Nat.le_refl _), Nat.sub_self]; rfl) hq
    omega
  have hP1 : va_P D vwCl ws1 T'.heap := fun i x hx => (hP i x (h1l i x hx).1).kept (by
    rw [e1]
    exact hk x.1 (hne i x hx).1 (fun h => by rcases h with h | h; exact (hne i x hx).2 h; have := (hne i x hx).1; omega))
  have hD1 : va_D A ws1 := ⟨fun i j x y hx hy => hD.1 i j x y (h1l i x hx).1 (h1l j y hy).1, fun i x hx => hD.2 i x (h1l i x hx).1⟩
  obtain ⟨t2, a1, b1⟩ := kk ws2 hp T'.heap (locs ++ Lx) (hP1.app (by rw [e1]; exact hb)) (D_app hD1 hD2 (fun i j x y hx hy he => by
      have h5 := hne i x hx
      rcases hD2.2 j y hy with h | h
      · exact h5.2 (he.trans h)
      · omega) hB)
    ⟨Nat.le_trans hS.1 (by rw [e1]; exact hz), fun x h1 h2 => by rw [e1, hk x (Nat.lt_of_lt_of_le h1 hS.1) (fun z => h2 (hB x z))]; exact hS.2.1 x h1 h2, fun x hx => by
      rcases List.mem_append.mp hx with h | h
      · exact hS.2.2 x h
      · exact hB _ (hL x h)⟩ T' rfl X'
  exact ⟨t2, stp t2 a1, b1⟩
section CallRules
variable {Γ : Gm} {own : String} {cc : ByteArray} {d pc k n : Nat} {lv : List (Nat × Value)} {st : List Value} {ws1 : va_W}
/-- a constructor is called on the cell that was made last -/
theorem w_init (hc : Cx Γ own cc d) (hf : Fr Γ) {y : MethodName} {bytes : ByteArray} {maxL d' mc ms index q : Nat} {ws0 : Nat → va_W} {post : Nat → CK → va_W → Prop} {e0 : va_E} (hM : SpN y bytes maxL d' mc ms ws0 post) (hw0 : ws0 q = [(q, e0)]) (hw : Cond.methodLink own index y ∈ TT ∧ Cond.instanceMethod y ∈ TT ∧ Cond.initialized y.cls ∈ TT ∧ Cond.code y bytes maxL none ∈ TT ∧ (y.cls ≠ "java/lang/invoke/MethodHandle" ∧ y.cls ≠ "java/lang/invoke/VarHandle" ∧ (parseMethodDescriptor y.desc).map (fun d => d.parameters.length) = some 0) ∧ y.name = "<init>" ∧ maxL ≤ 19) (hd : decode cc pc = .ok (.invokespecial index, 3)) (hdd : d' + 1 ≤ d) (hr : Rm Γ (k + mc) (n + ms)) (hst : (st.map fun v => v.category).sum ≤ 8)
    (n1 : ∀ ws2 : va_W, post q Γ.2.2.2.2.2.2.2.2.2.2.2.1 ws2 → JW Γ (pc + 3) lv st (ws1 ++ ws2) (k + mc) (n + ms)) : JW Γ pc lv (.ref q :: st) (ws1 ++ [(q, e0)]) k n := by
  obtain ⟨p, l, e, R, s, m, args, below, meth, c, D, K, ad, A, nL, cells, slots, Q⟩ := Γ
  obtain ⟨hx, hb, hml, hown, hts, hK, hA, hfr, hlo, hce, hsl⟩ := hc
  obtain ⟨f1, f2, f3⟩ := hf
  obtain ⟨r1, r2⟩ := hr
  obtain ⟨w0, w1, w4, w3, w5, w6, w7⟩ := hw
  intro H locs ls hP hD hS hl
  have hgood : GoodIn TT (Cond.code y bytes maxL none :: TT) := TT_good (fun w hw => by
    rcases List.mem_cons.mp hw with rfl | h
    · exact w3
    · exact h) (fun w h => h)
  have hroom : d' + 1 ≤ R.frames ∧ 8 + (maxL + 11) + 38 * d' ≤ R.locals := ⟨by omega, by omega⟩
  have hPq : va_P D vwCl (ws0 q) H := by
    rw [hw0]
    intro i x hx9
    have hz : i < 1 := (List.getElem?_eq_some_iff.mp hx9).1
    rw [show i = 0 by omega] at hx9
    cases hx9
    exact hP ws1.length (q, e0) (by rw [List.getElem?_append_right (Nat.le_refl _), Nat.sub_self]; rfl)
  have hrun := va_runI (As := []) (rest := st) (b := q) (g := F0 m pc ls (.ref q :: st)) (H := H) (locs := locs) (cells := k) (slots := n) (below := below) (meth := meth) (e := e) ⟨hx, hb, hml, hown, hts⟩ (hM l D K q H.size) ⟨callB_of 0 hts hgood rfl rfl rfl (hts _ w4) (hts _ w0) w5 hroom, w6, hts _ w1⟩
    ⟨KN.blind, fun U hU hW => ⟨rfl, by rw [hU], by rw [hU]; exact hPq, KN.warm hW ⟨hK.1, hK.2.1, f2⟩⟩⟩ rfl rfl hl.1 rfl (lv_room hst) hd ⟨r1, r2⟩
  exact ww_call hrun hP hD hS f1 (fun ws2 hp H1 locs1 hP1 hD1 hS1 => n1 ws2 hp H1 locs1 ls hP1 hD1 hS1 hl)
end CallRules
