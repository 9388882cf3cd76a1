-- ===== 04: numbers, bits, digits; calls whose answer is known =====
def bI (b : Bool) : Int32 := if b then nI 1 else nI 0
def bt (x : Int32) (k : Nat) : Bool := x.toBitVec.getLsbD k
def dg (c p : Nat) : Nat := c / 16 ^ p % 16
theorem dg_lt (c p : Nat) : dg c p < 16 := Nat.mod_lt _ (by decide)
theorem bI_t : bI true = nI 1 := rfl
theorem bI_f : bI false = nI 0 := rfl
theorem bI_inj {a b : Bool} (h : bI a = bI b) : a = b := by
  cases a <;> cases b <;> first | rfl | exact absurd h (by decide)
theorem bI_ne0 {b : Bool} : bI b = 0 ↔ b = false := by cases b <;> decide
theorem bI_eq1 {b : Bool} : bI b = nI 1 ↔ b = true := by cases b <;> decide
theorem narrow_bI (b : Bool) : narrow .boolean (.int (bI b)) = .int (bI b) := by cases b <;> rfl
theorem nar_bI (b : Bool) : vp_nar .boolean (bI b) = bI b := by cases b <;> rfl
theorem narrow_i (x : Int32) : narrow .int (.int x) = .int x := rfl
theorem m31 {j : Nat} (h : j < 32) : nI j &&& 31 = nI j := by
  rw [pk_andN (n := j) (by omega) 5 (by decide)]
  rw [Nat.mod_eq_of_lt (by omega)]
theorem smod32 {j : Nat} (h : j < 32) : ((nI j).toBitVec.smod 32).toNat = j := by
  have key : ∀ j : Fin 32, ((nI j.val).toBitVec.smod 32).toNat = j.val := by decide +kernel
  exact key ⟨j, h⟩
theorem bt_ext {x y : Int32} (h : ∀ k, k < 32 → bt x k = bt y k) : x = y := by
  apply Int32.toBitVec_inj.mp
  apply BitVec.eq_of_getLsbD_eq
  intro i hi
  exact h i hi
theorem bt_ge {x : Int32} {k : Nat} (h : 32 ≤ k) : bt x k = false := BitVec.getLsbD_of_ge _ _ h
theorem bt_or (x y : Int32) (k : Nat) : bt (x ||| y) k = (bt x k || bt y k) := by
  unfold bt
  rw [Int32.toBitVec_or, BitVec.getLsbD_or]
theorem bt_and (x y : Int32) (k : Nat) : bt (x &&& y) k = (bt x k && bt y k) := by
  unfold bt
  rw [Int32.toBitVec_and, BitVec.getLsbD_and]
theorem bt_not (x : Int32) {k : Nat} (hk : k < 32) : bt (x ^^^ (-1)) k = !bt x k := by
  unfold bt
  rw [Int32.toBitVec_xor, BitVec.getLsbD_xor]
  have : (-1 : Int32).toBitVec.getLsbD k = true := by
    rw [show (-1 : Int32).toBitVec = BitVec.allOnes 32 by decide, BitVec.getLsbD_allOnes]
    simp [hk]
  rw [this, Bool.xor_true]
theorem bt_0 (k : Nat) : bt (nI 0) k = false := by
  unfold bt
  rw [show (nI 0).toBitVec = 0#32 by decide]
  simp
theorem bt_shlx {m : Nat} (hm : m < 32) (x : Int32) (k : Nat) : bt (x <<< (nI m &&& 31)) k = (decide (k < 32) && (!decide (k < m) && bt x (k - m))) := by
  unfold bt
  rw [m31 hm, Int32.toBitVec_shiftLeft, BitVec.shiftLeft_eq', smod32 hm, BitVec.getLsbD_shiftLeft, Bool.and_assoc]
theorem bt_1 (k : Nat) : bt (nI 1) k = decide (k = 0) := by
  unfold bt
  rw [show (nI 1).toBitVec = 1#32 by decide, BitVec.getLsbD_one]
  simp
theorem bt_one {m k : Nat} (hm : m < 32) : bt (nI 1 <<< (nI m &&& 31)) k = decide (k = m) := by
  rw [bt_shlx hm, bt_1]
  by_cases h : k = m
  · subst h; simp [hm]
  · simp [h]
    omega
theorem bt_shr (x : Int32) {j : Nat} (hj : j < 32) : (x >>> (nI j &&& 31)) &&& nI 1 = bI (bt x j) := by
  apply bt_ext
  intro k hk
  rw [bt_and, bt_1]
  have h1 : bt (x >>> (nI j &&& 31)) 0 = bt x j := by
    unfold bt
    rw [m31 hj, Int32.toBitVec_shiftRight, BitVec.sshiftRight_eq', smod32 hj, BitVec.getLsbD_sshiftRight]
    simp [hj]
  by_cases h : k = 0
  · subst h
    rw [h1]
    cases bt x j <;> simp [bI, bt_1, bt_0]
  · simp [h]
    cases bt x j <;> simp [bI, bt_1, bt_0, h]
theorem dg_shr {c p : Nat} (hc : c < 2 ^ 31) (hp : p < 8) : (nI c >>> (nI (4 * p) &&& 31)) &&& nI 15 = nI (dg c p) := by
  rw [m31 (by omega), pk_shrN hc (nI (4 * p)) (4 * p) (smod32 (by omega)), pk_andN (Nat.lt_of_le_of_lt (Nat.div_le_self _ _) (by omega)) 4 (by decide)]
  unfold dg
  rw [Nat.pow_mul]
/-- numbers as Nat or as refused -/
theorem nI_cases (x : Int32) : x < 0 ∨ ∃ j : Nat, j < 2 ^ 31 ∧ x = nI j := by
  by_cases h : x < 0
  · exact Or.inl h
  · exact Or.inr (nI_of h)
theorem lt0_ne {x : Int32} (h : x < 0) (j : Nat) (hj : j < 2 ^ 31) : x ≠ nI j := fun e => nI_pos hj (e ▸ h)
theorem nI_ltm {a : Nat} {x : Int32} (h : x < 0) (ha : a < 2 ^ 31) : x < nI a := by
  have h1 : x.toInt < 0 := Int32.lt_iff_toInt_lt.mp h
  refine Int32.lt_iff_toInt_lt.mpr ?_
  rw [nI_toInt ha]
  omega
/-- a contract's end: this answer, nothing changed -/
def rt (σ : Sg) (v : PV) : Option PV → Sg → Prop := fun r σ' => r = some v ∧ σ' = σ
theorem rt.mk {σ : Sg} {v w : PV} (h : v = w) : rt σ w (some v) σ := ⟨by rw [h], rfl⟩
section Calls2
variable {Γ : Gm} {own : String} {cc : ByteArray} {d pc : Nat} {L : List (Option PV)} {σ : Sg}
theorem j_callV1 (hc : Cx Γ own cc d) {y : MethodName} {bytes : ByteArray} {maxL n index d' q ci : Nat} {ret : Option FieldType} {as rest st : List PV} {v : PV} {σ1 : Sg} {fs : List (Option Nat)} {T : u_T} {N : Nat} (hw : Cw 0 own index y bytes maxL ret n) (hM : Sp y bytes maxL ret d' (.inr q :: as) σ (rt σ1 v)) (hd : decode cc pc = .ok (.invokevirtual index, 3)) (hst : st = as.reverse ++ .inr q :: rest) (hn : as.length = n) (hdd : d' + 1 ≤ d) (hrl : rest.length ≤ 8) (hq : q < 68) (hy : lay q = .inl (ci, fs)) (hci : vwCl[ci]? = some (y.cls, T, N)) (n1 : J Γ (pc + 3) L (v :: rest) σ1) : J Γ pc L st σ :=
  j_callV hc hw hM hd hst hn hdd hrl hq hy hci (fun r σ' h => by obtain ⟨rfl, rfl⟩ := h; exact n1)
theorem j_callS1 (hc : Cx Γ own cc d) {y : MethodName} {bytes : ByteArray} {maxL n index d' : Nat} {ret : Option FieldType} {as rest st : List PV} {v : PV} {σ1 : Sg} (hw : Cw 1 own index y bytes maxL ret n) (hM : Sp y bytes maxL ret d' as σ (rt σ1 v)) (hd : decode cc pc = .ok (.invokestatic index, 3)) (hst : st = as.reverse ++ rest) (hn : as.length = n) (hdd : d' + 1 ≤ d) (hrl : rest.length ≤ 8) (n1 : J Γ (pc + 3) L (v :: rest) σ1) : J Γ pc L st σ :=
  j_callS hc hw hM hd hst hn hdd hrl (fun r σ' h => by obtain ⟨rfl, rfl⟩ := h; exact n1)
theorem j_callSN1 (hc : Cx Γ own cc d) {y : MethodName} {bytes : ByteArray} {maxL n index d' : Nat} {ret : Option FieldType} {as rest st : List PV} {v : PV} {σ1 : Sg} (hw : Cw 2 own index y bytes maxL ret n) (hM : Sp y bytes maxL ret d' as σ (rt σ1 v)) (hd : decode cc pc = .ok (.invokestatic index, 3)) (hst : st = as.reverse ++ rest) (hn : as.length = n) (hdd : d' + 1 ≤ d) (hrl : rest.length ≤ 8) (n1 : J Γ (pc + 3) L (v :: rest) σ1) : J Γ pc L st σ :=
  j_callSN hc hw hM hd hst hn hdd hrl (fun r σ' h => by obtain ⟨rfl, rfl⟩ := h; exact n1)
/-- a contract's end without an answer: the state behind -/
def rs (σ1 : Sg) : Option PV → Sg → Prop := fun r σ' => r = none ∧ σ' = σ1
theorem j_callV0 (hc : Cx Γ own cc d) {y : MethodName} {bytes : ByteArray} {maxL n index d' q ci : Nat} {ret : Option FieldType} {as rest st : List PV} {σ1 : Sg} {fs : List (Option Nat)} {T : u_T} {N : Nat} (hw : Cw 0 own index y bytes maxL ret n) (hM : Sp y bytes maxL ret d' (.inr q :: as) σ (rs σ1)) (hd : decode cc pc = .ok (.invokevirtual index, 3)) (hst : st = as.reverse ++ .inr q :: rest) (hn : as.length = n) (hdd : d' + 1 ≤ d) (hrl : rest.length ≤ 8) (hq : q < 68) (hy : lay q = .inl (ci, fs)) (hci : vwCl[ci]? = some (y.cls, T, N)) (n1 : J Γ (pc + 3) L rest σ1) : J Γ pc L st σ :=
  j_callV hc hw hM hd hst hn hdd hrl hq hy hci (fun r σ' h => by obtain ⟨rfl, rfl⟩ := h; exact n1)
/-- a contract for a stronger end serves a weaker one -/
theorem Sp.mono {y : MethodName} {nL : Nat} {rt0 : Option FieldType} {as : List PV} {post post' : Option PV → Sg → Prop} (h : Sp y cc nL rt0 d as σ post) (hp : ∀ r σ', post r σ' → post' r σ') : Sp y cc nL rt0 d as σ post' := by
  intro l D K ad p e ha hc hk s m args below hf happ hP hK
  obtain ⟨k, o, h1, h2, h3, ⟨⟨r, σ', e1, e2, e3⟩, e4⟩, h5⟩ := h l D K ad p e ha hc hk s m args below hf happ hP hK
  exact ⟨k, o, h1, h2, h3, ⟨⟨r, σ', e1, hp r σ' e2, e3⟩, e4⟩, h5⟩
end Calls2
