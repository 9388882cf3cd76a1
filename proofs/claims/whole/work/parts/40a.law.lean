-- ===== 40a: the law's rules; the next states are well =====
theorem InvM.hi {T : TS} {mo : Option (Nat × Nat)} {σ σ' : Sg} (h : InvM T mo σ) (hq : ∀ q, 50 ≤ q → q < 61 → σ' q = σ q) : InvM T mo σ' := by
  obtain ⟨a1, a2, a3, a4, a5, a6, a7, a8, a9, a10, a11, a12, a13, a14, a15, a16⟩ := h
  have e50 := hq 50 (by decide) (by decide)
  refine ⟨?_, ?_, ?_, ?_, ?_, ?_, ?_, ?_, ?_, ?_, ?_, ?_, ?_, ?_, ?_, ?_⟩
  · rw [e50]; exact a1
  · rw [hq 51 (by decide) (by decide)]; exact a2
  · rw [hq 52 (by decide) (by decide)]; exact a3
  · rw [hq 53 (by decide) (by decide)]; exact a4
  · rw [hq 54 (by decide) (by decide)]; exact a5
  · rw [e50]; exact a6
  · rw [hq 55 (by decide) (by decide)]; exact a7
  · rw [hq 56 (by decide) (by decide)]; exact a8
  · rw [hq 57 (by decide) (by decide), hq 58 (by decide) (by decide)]; exact a9
  · rw [e50]; exact a10
  · rw [hq 60 (by decide) (by decide)]; exact a11
  · rw [hq 59 (by decide) (by decide)]; exact a12
  · rw [e50]; exact a13
  · rw [e50]; exact a14
  · rw [e50]; exact a15
  · rw [e50]; exact a16
theorem Sp.toX {y : MethodName} {cc : ByteArray} {nL d : Nat} {rt0 : Option FieldType} {as : List PV} {σ : Sg} {v : Int32} {T : TS} (h : Sp y cc nL rt0 d as σ (rt σ (.inl v))) (hX : InvX T σ) : Sp y cc nL rt0 d as σ (nX T σ v) := h.mono (fun r σ' q => by obtain ⟨h1, rfl⟩ := q; exact ⟨h1, hX, frXo.rfl' _⟩)
theorem Sp.toM {y : MethodName} {cc : ByteArray} {nL d : Nat} {rt0 : Option FieldType} {as : List PV} {σ : Sg} {v : Int32} {T : TS} (h : Sp y cc nL rt0 d as σ (qM σ v)) (hM : InvM T none σ) : Sp y cc nL rt0 d as σ (nM T σ v) := h.mono (fun r σ' q => ⟨q.1, hM.keep q.2, q.2.fr⟩)
-- the next states
theorem wf_tKind {T : TS} (hW : WF T) (a b d : Int32) : WF (tKind T a b d) := by
  unfold tKind
  cases hok : okPar T a b d with
  | false => exact hW
  | true =>
    obtain ⟨p0, p1, p3, pnd, pP, _⟩ := parOK hW.1.2 hok
    cases hm : mrgK T (parL a b d) with
    | none => simp only [if_true, hm]; exact hW
    | some l => simp only [if_true, hm]; exact hW.kind p0 p1 p3 pnd pP hm
theorem kd_tKind {T : TS} (h : KdOK T) (a b d : Int32) : KdOK (tKind T a b d) := by
  unfold tKind
  cases hok : okPar T a b d with
  | false => exact h
  | true =>
    cases hm : mrgK T (parL a b d) with
    | none => simp only [if_true, hm]; exact h
    | some l => simp only [if_true, hm]; exact h
theorem okFun_of {T : TS} {p : Int32} (h : okFun T p = true) : tnf T < 4 ∧ 1 ≤ p.toNatClampNeg ∧ p.toNatClampNeg ≤ 3 := by
  unfold okFun at h
  simp only [Bool.and_eq_true, decide_eq_true_eq, Int32.le_iff_toInt_le, nI_toInt (show 1 < 2 ^ 31 by decide), nI_toInt (show 3 < 2 ^ 31 by decide)] at h
  obtain ⟨k, hk, hk2, rfl⟩ := isN_of (x := p) (n := 4) (by unfold isN; simp; omega)
  rw [nI_toInt hk2] at h
  rw [nI_clamp hk2]
  omega
theorem wf_tFun {T : TS} (hW : WF T) (p : Int32) : WF (tFun T p) := by
  unfold tFun
  cases hok : okFun T p with
  | false => exact hW
  | true => obtain ⟨h1, h2, h3⟩ := okFun_of hok; exact hW.fn h1 h2 h3
theorem kd_tFun {T : TS} (h : KdOK T) (p : Int32) : KdOK (tFun T p) := by
  unfold tFun
  cases hok : okFun T p with
  | false => exact h
  | true => exact h.fn
theorem wf_tMeth {T : TS} (hW : WF T) (hKd : KdOK T) (x y k v : Int32) : WF (tMeth T x y k v) ∧ KdOK (tMeth T x y k v) := by
  unfold tMeth
  cases hok : okMeth T x y k v with
  | false => exact ⟨hW, hKd⟩
  | true =>
    have h2 := hok
    unfold okMeth at h2
    simp only [Bool.and_eq_true] at h2
    obtain ⟨i, w, hi, rfl, rfl, hv⟩ := isC_of hW.2.2.2.1 h2.1
    obtain ⟨j, hj, hj2, rfl⟩ := isN_of h2.2.1
    have hwl := vcall_lt hv (hW.2.2.2.2.1 i hi).2
    have h4 := hW.2.2.2.1
    simp only [if_true]
    rw [nI_clamp (n := i) (by omega), nI_clamp (n := w) (by omega)]
    cases hfr : mFree T i with
    | none => exact ⟨hW, hKd⟩
    | some m =>
      obtain ⟨hm, _, _⟩ := fnd_some hfr
      cases hfo : mFor T i w with
      | some m2 => exact ⟨hW, hKd⟩
      | none =>
        have hno := mFor_none hW hi hfo
        have hW1 : WF (setKv (setTg T i m (some w)) i m (nI j) v) := hW.meth hm hv hno
        have hK1 : KdOK (setKv (setTg T i m (some w)) i m (nI j) v) := hKd.meth hj
        exact ⟨hW1.drop hi, hK1⟩
theorem wf_tDrop {T : TS} (hW : WF T) (hKd : KdOK T) (x y : Int32) : WF (tDrop T x y) ∧ KdOK (tDrop T x y) := by
  unfold tDrop
  cases hok : okDrop T x y with
  | false => exact ⟨hW, hKd⟩
  | true =>
    have h2 := hok
    unfold okDrop at h2
    simp only [Bool.and_eq_true] at h2
    obtain ⟨i, hi, hi2, rfl⟩ := isN_of h2.1
    simp only [if_true]
    rw [nI_clamp hi2]
    have hK1 : KdOK (dropKp T i ((ttg T i y.toNatClampNeg).getD 0)) := hKd
    exact ⟨(hW.drop hi).less, hK1.less⟩
theorem wf_tCall {T : TS} (hW : WF T) (hKd : KdOK T) (x y : Int32) : WF (tCall T x y) ∧ KdOK (tCall T x y) := by
  unfold tCall
  cases hok : isC T x y with
  | false => exact ⟨hW, hKd⟩
  | true =>
    obtain ⟨i, w, hi, rfl, rfl, hv⟩ := isC_of hW.2.2.2.1 hok
    have hwl := vcall_lt hv (hW.2.2.2.2.1 i hi).2
    have h4 := hW.2.2.2.1
    simp only [if_true]
    rw [nI_clamp (n := i) (by omega), nI_clamp (n := w) (by omega)]
    exact ⟨hW.call hi hv, hKd⟩
theorem KdOK.rule {T : TS} (h : KdOK T) : KdOK (nRule T) := h
-- the script
def LwG (Γ : Gm) (N : Nat) (xs : Nat → Int32) : Prop := match Γ with
  | (_, _, _, _, s, _, _, _, _, _, _, _, ad, A, _, _, _, _) => va_X (ad 68) N xs s s.heap ∧ ad 68 < s.heap.size ∧ ¬ A (ad 68)
theorem lwg_bmp {Γ : Gm} {N : Nat} {xs : Nat → Int32} (h : LwG Γ N xs) : LwG (bmp Γ) N xs := by
  obtain ⟨p, l, e, R, s, m, args, below, meth, c, D, K, ad, A, nL, cells, slots, Q⟩ := Γ
  obtain ⟨g1, g2, g3⟩ := h
  exact ⟨g1, g2, g3⟩
section LawRules
variable {Γ : Gm} {own : String} {cc : ByteArray} {d pc N : Nat} {xs : Nat → Int32} {L : List (Option PV)} {st : List PV} {σ : Sg}
theorem j_sld (hc : Cx Γ own cc d) (hg : LwG Γ N xs) {k : Nat} (hd : decode cc pc = .ok (.iaload, 1)) (hk : k < N) (hN : N < 2 ^ 31) (n1 : J Γ (pc + 1) L (.inl (xs k) :: st) σ) : J Γ pc L (.inl (nI k) :: .inr 68 :: st) σ := by
  obtain ⟨p, l, e, R, s, m, args, below, meth, c, D, K, ad, A, nL, cells, slots, Q⟩ := Γ
  obtain ⟨hx, hb, hml, hown, hts, hK, hA, hfr, hlo, hce, hsl⟩ := hc
  obtain ⟨g1, g2, g3⟩ := hg
  intro hL H locs ls hP hS hl
  refine va_sld hx hb g1 g2 g3 hS (vp_in_nI hk hN) hd ?_
  rw [nI_clamp (n := k) (by omega)]
  exact n1 hL H locs ls hP hS hl
theorem j_slen (hc : Cx Γ own cc d) (hg : LwG Γ N xs) (hd : decode cc pc = .ok (.arraylength, 1)) (n1 : J Γ (pc + 1) L (.inl (nI N) :: st) σ) : J Γ pc L (.inr 68 :: st) σ := by
  obtain ⟨p, l, e, R, s, m, args, below, meth, c, D, K, ad, A, nL, cells, slots, Q⟩ := Γ
  obtain ⟨hx, hb, hml, hown, hts, hK, hA, hfr, hlo, hce, hsl⟩ := hc
  obtain ⟨g1, g2, g3⟩ := hg
  intro hL H locs ls hP hS hl
  exact va_slen hx hb g1 g2 g3 hS hd (n1 hL H locs ls hP hS hl)
theorem j_widen (n1 : J (bmp Γ) pc L st σ) : J Γ pc L st σ := by
  obtain ⟨p, l, e, R, s, m, args, below, meth, c, D, K, ad, A, nL, cells, slots, Q⟩ := Γ
  intro hL H locs ls hP hS hl
  exact W.widen (k := cells + 1) (n := slots + 6) (by omega) (by omega) (n1 hL H locs ls hP hS hl)
theorem j_lcmp (hc : Cx Γ own cc d) {v : Int32} {k : Nat} (d0 : decode cc pc = .ok (.laload, 1)) (d1 : decode cc (pc + 1) = .ok (.iload k, 2)) (d3 : decode cc (pc + 3) = .ok (.i2l, 1)) (d4 : decode cc (pc + 4) = .ok (.lcmp, 1)) (hk : L[k]? = some (some (.inl v))) (hv : σ 67 0 = v) (n1 : J Γ (pc + 5) L (.inl 0 :: st) σ) : J Γ pc L (.inl (nI 0) :: .inr 67 :: st) σ := by
  obtain ⟨p, l, e, R, s, m, args, below, meth, c, D, K, ad, A, nL, cells, slots, Q⟩ := Γ
  obtain ⟨hx, hb, hml, hown, hts, hK, hA, hfr, hlo, hce, hsl⟩ := hc
  intro hL H locs ls hP hS hl
  have hy : lay 67 = .inr (3, 1) := rfl
  have hw : (wld K ad σ)[67]? = some (ad 67, .inl (K.2.2.2, 1, .inr (.inl (fun j => (σ 67 j).toInt64)))) := by rw [wld_get (by decide), cel_long hy]
  refine va_lald hx hb hK.1 hP 67 3 hw rfl (vp_in_nI (by decide) (by decide)) d0 ?_
  rw [nI_clamp (n := 0) (by decide), hv]
  refine lv_iload hx hb d1 (lvl_at hl hk) ?_
  refine lv_i2l hx hb d3 rfl (W.lcmp hx hb d4 ?_)
  rw [show lg_cmp v.toInt64 v.toInt64 = 0 by simp [lg_cmp]]
  exact n1 hL H locs ls hP hS hl
end LawRules
theorem lenI {N i : Nat} (hN : N < 2 ^ 30) (hi : i < 2 ^ 30) : nI N - nI 5 < nI i ↔ N < i + 5 := by
  rw [Int32.lt_iff_toInt_lt, pk_sub_toInt hN (by decide), nI_toInt (by omega)]
  omega
theorem and31 (x : Int32) : ∃ k, k < 32 ∧ x &&& nI 31 = nI k := by
  refine ⟨(x &&& nI 31).toBitVec.toNat, ?_, ?_⟩
  · apply Nat.lt_pow_two_of_testBit (n := 5)
    intro i hi
    show bt (x &&& nI 31) i = false
    rw [bt_and]
    by_cases h : i < 32
    · have key : ∀ j : Fin 32, 5 ≤ j.val → bt (nI 31) j.val = false := by decide +kernel
      rw [key ⟨i, h⟩ hi, Bool.and_false]
    · rw [bt_ge (x := nI 31) (by omega), Bool.and_false]
  · apply Int32.toBitVec_inj.mp
    show _ = BitVec.ofNat 32 (x &&& nI 31).toBitVec.toNat
    simp
