-- ===== 50e: the class's constructor =====
section NewRules4
variable {Γ : Gm} {own : String} {cc : ByteArray} {d pc k n : Nat} {lv : List (Nat × Value)} {st : List Value} {ws : va_W}
theorem w_putG (hc : Cx Γ own cc d) (hf : Fr Γ) {q0 a v ci j index : Nat} {ty : FieldType} {fs : List Value} (hF : Fld own index ci j true ty) (hw : ws[q0]? = some (a, .inr (ci, fs))) (hj : j < fs.length) (hn : narrow ty (.ref v) = .ref v) (hft : fits ty (.ref v) = true) (hd : decode cc pc = .ok (.putfield index, 3)) (hcl : ∃ T N, vwCl[ci]? = some (own, T, N)) (hnl : Cond.fieldLink own index own ((vwCl[ci]?.map (fun q => (q.2.1 j).2.1)).getD "") ((vwCl[ci]?.map (fun q => (q.2.1 j).2.2.1)).getD "") ∈ TT) (n1 : JW Γ (pc + 3) lv st (ws.set q0 (a, .inr (ci, fs.set j (.ref v)))) k n) : JW Γ pc lv (.ref v :: .ref a :: st) ws k n := by
  obtain ⟨p, l, e, R, s, m, args, below, meth, c, D, K, ad, A, nL, cells, slots, Q⟩ := Γ
  obtain ⟨hx, hb, hml, hown, hts, hK, hA, hfr, hlo, hce, hsl⟩ := hc
  obtain ⟨f1, f2, f3⟩ := hf
  obtain ⟨C, T, N, tyX, g1, g2, g3, g4, g5, g6, g7, g8, g9⟩ := hF
  obtain ⟨T', N', h1⟩ := hcl
  have hT : (C, T, N) = (own, T', N') := Option.some.inj (g1.symm.trans h1)
  cases hT
  rw [g1] at hnl
  intro H locs ls hP hD hS hl
  have hty : parseFieldDescriptor (T j).2.2.1 = some ty := by rw [g4 j g2, g9]
  exact va_putF (v := .ref v) (ty := ty) hx hb hts g3 tyX g4 g5 hown hK.1 hP hD hS q0 hw g1 j g2 (hts _ hnl) (fun x h => by rw [g6] at h; exact h) g8 f3 g6 hty hn hft hj hd (fun H1 locs1 hP1 hD1 hS1 => n1 H1 locs1 ls hP1 hD1 hS1 hl)
/-- a new row of functions -/
theorem w_newq (hc : Cx Γ own cc d) (hf : Fr Γ) {N index : Nat} (hr : Rm Γ (k + 1) (n + N)) (hN : N ≤ 4096) (hcl : Cond.classLink own index RX1 ∈ TT) (hov : match Γ with | (_, _, _, _, s, _, _, _, _, _, _, _, _, _, _, _, _, _) => va_AO RX1 s) (hd : decode cc pc = .ok (.anewarray index, 3)) (n1 : ∀ q : Nat, JW Γ (pc + 3) lv (.ref q :: st) (ws ++ [(q, .inl (Γ.2.2.2.2.2.2.2.2.2.2.2.1.2.2.1, N, .inr (.inr (.inr (.inr (fun _ => none))))))]) (k + 1) (n + N)) : JW Γ pc lv (.int (nI N) :: st) ws k n := by
  obtain ⟨p, l, e, R, s, m, args, below, meth, c, D, K, ad, A, nL, cells, slots, Q⟩ := Γ
  obtain ⟨hx, hb, hml, hown, hts, hK, hA, hfr, hlo, hce, hsl⟩ := hc
  obtain ⟨f1, f2, f3⟩ := hf
  obtain ⟨r1, r2⟩ := hr
  intro H locs ls hP hD hS hl
  refine va_newq hx hb hown (hts _ hcl) hov hK.1 hP hD hS f1 (nI_pos (by omega)) (nI_clamp (n := N) (by omega)) (by omega) r1 r2 hd (fun q cA H1 hK1 hP1 hD1 hS1 => ?_)
  obtain ⟨_, _, _, _, _, h4⟩ := (hK1.2 4 (cA, .object RX1) rfl).2
  obtain ⟨_, _, _, _, _, h5⟩ := (hK.1.2 2 (K.2.2.1, .object RX1) rfl).2
  have hcA : cA = K.2.2.1 := Option.some.inj (h4.symm.trans h5)
  subst hcA
  exact n1 q H1 locs ls hP1 hD1 hS1 hl
theorem w_astq (hc : Cx Γ own cc d) {q0 qk a v j N : Nat} {i : Int32} {vs : List Value} {f : Nat → Option Nat} (hw : ws[q0]? = some (a, .inl (Γ.2.2.2.2.2.2.2.2.2.2.2.1.2.2.1, N, .inr (.inr (.inr (.inr f)))))) (hv : ws[qk]? = some (v, .inr (1, vs))) (hi : i = nI j) (hj : j < N) (hN : N < 2 ^ 31) (hd : decode cc pc = .ok (.aastore, 1)) (n1 : JW Γ (pc + 1) lv st (ws.set q0 (a, .inl (Γ.2.2.2.2.2.2.2.2.2.2.2.1.2.2.1, N, .inr (.inr (.inr (.inr (va_up f j (some v)))))))) k n) : JW Γ pc lv (.ref v :: .int i :: .ref a :: st) ws k n := by
  obtain ⟨p, l, e, R, s, m, args, below, meth, c, D, K, ad, A, nL, cells, slots, Q⟩ := Γ
  obtain ⟨hx, hb, hml, hown, hts, hK, hA, hfr, hlo, hce, hsl⟩ := hc
  intro H locs ls hP hD hS hl
  subst hi
  refine va_astq (r := (RX1, TX1, 9)) hx hb hK.1 hP hD hS q0 2 qk 1 hw rfl hv rfl (vp_in_nI hj hN) hd (fun H1 locs1 hP1 hD1 hS1 => ?_)
  rw [nI_clamp (n := j) (by omega)] at hP1 hD1
  exact n1 H1 locs1 ls hP1 hD1 hS1 hl
theorem w_istore (hc : Cx Γ own cc d) {i : Fin 4} {v : Int32} {lv' : List (Nat × Value)} (hd : decode cc pc = .ok (.istore_n i, 1)) (hi : match Γ with | (_, _, _, _, _, _, _, _, _, _, _, _, _, _, nL, _, _, _) => (i : Nat) < nL) (hl' : ((i : Nat), Value.int v) :: lv.filter (fun q => !(q.1 == (i : Nat)) && !(q.1 + 1 == (i : Nat) && q.2.category == 2)) = lv') (n1 : JW Γ (pc + 1) lv' st ws k n) : JW Γ pc lv (.int v :: st) ws k n := by
  obtain ⟨p, l, e, R, s, m, args, below, meth, c, D, K, ad, A, nL, cells, slots, Q⟩ := Γ
  obtain ⟨hx, hb, hml, hown, hts, hK, hA, hfr, hlo, hce, hsl⟩ := hc
  intro H locs ls hP hD hS hl
  exact lv_istore_n hx hb hd rfl hl hi hl' (fun ls' h' => n1 H locs ls' hP hD hS h')
theorem w_iload (hc : Cx Γ own cc d) {i : Fin 4} {v : Int32} (hd : decode cc pc = .ok (.iload_n i, 1)) (hi : ∃ j : Nat, lv[j]? = some ((i : Nat), Value.int v)) (n1 : JW Γ (pc + 1) lv (.int v :: st) ws k n) : JW Γ pc lv st ws k n := by
  obtain ⟨p, l, e, R, s, m, args, below, meth, c, D, K, ad, A, nL, cells, slots, Q⟩ := Γ
  obtain ⟨hx, hb, hml, hown, hts, hK, hA, hfr, hlo, hce, hsl⟩ := hc
  obtain ⟨j, hj⟩ := hi
  intro H locs ls hP hD hS hl
  exact lv_iload_n hx hb hd rfl (lv_at hl j hj) (n1 H locs ls hP hD hS hl)
end NewRules4
