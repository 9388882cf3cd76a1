-- ===== 20ea: counting bits =====
def ush (x y : Int32) : Int32 := (x.toUInt32 >>> (y.toUInt32 &&& Int32.toUInt32 31)).toInt32
def bc1 (x : Int32) : Int32 := x - (ush x (nI 1) &&& 1431655765)
def bc2 (x : Int32) : Int32 := (x &&& 858993459) + (ush x (nI 2) &&& 858993459)
def bc3 (x : Int32) : Int32 := (x + ush x (nI 4)) &&& 252645135
def bcE (x : Int32) : Int32 := x + ush x (nI 8)
def bcS (x : Int32) : Int32 := x + ush x (nI 16)
def bcA (x : Int32) : Int32 := bcS (bcE (bc3 (bc2 (bc1 x)))) &&& nI 63
theorem bcA_all : ∀ (a : Fin 64) (b : Fin 128), bcA (nI (128 * a.val + b.val)) = nI (cnt (bt (nI (128 * a.val + b.val))) 13) := by decide +kernel
theorem bcA_ok {x : Int32} (hx : ∀ m, 13 ≤ m → m < 32 → bt x m = false) : bcA x = nI (cnt (bt x) 13) := by
  have hlt : x.toBitVec.toNat < 2 ^ 13 := by
    apply Nat.lt_pow_two_of_testBit
    intro i hi
    by_cases h : i < 32
    · exact hx i hi h
    · exact bt_ge (x := x) (by omega)
  have hk : nI x.toBitVec.toNat = x := by
    apply Int32.toBitVec_inj.mp
    show BitVec.ofNat 32 x.toBitVec.toNat = x.toBitVec
    simp
  have h1 := bcA_all ⟨x.toBitVec.toNat / 128, by omega⟩ ⟨x.toBitVec.toNat % 128, by omega⟩
  have h2 : 128 * (x.toBitVec.toNat / 128) + x.toBitVec.toNat % 128 = x.toBitVec.toNat := by omega
  simp only [h2, hk] at h1
  exact h1
theorem sp_bitCount (σ : Sg) {x : Int32} (hx : ∀ m, 13 ≤ m → m < 32 → bt x m = false) : Sp yJ6_bitCount_0f7a4 cJ6_bitCount_0f7a4 1 (some .int) 0 [.inl x] σ (rt σ (.inl (nI (cnt (bt x) 13)))) := by
  refine Sp.intro rfl (Nat.le_of_ble_eq_true rfl) (fun Γ c r => ?_)
  show J Γ 0 [some (.inl x)] [] σ
  refine j_iload_n c dJ6_bitCount_0f7a4_0 rfl ?_
  refine j_iload_n c dJ6_bitCount_0f7a4_1 rfl ?_
  refine j_iconst c (nI 1) dJ6_bitCount_0f7a4_2 (by decide) ?_
  refine j_iushr c _ dJ6_bitCount_0f7a4_3 rfl ?_
  refine j_ldcw c 1431655765 bc_265 dJ6_bitCount_0f7a4_4 ?_
  refine j_iand c _ dJ6_bitCount_0f7a4_7 rfl ?_
  refine j_isub c (bc1 x) dJ6_bitCount_0f7a4_8 rfl ?_
  refine j_istore_n c dJ6_bitCount_0f7a4_9 (Nat.le_of_ble_eq_true rfl) rfl ?_
  refine j_iload_n c dJ6_bitCount_0f7a4_10 rfl ?_
  refine j_ldcw c 858993459 bc_266 dJ6_bitCount_0f7a4_11 ?_
  refine j_iand c _ dJ6_bitCount_0f7a4_14 rfl ?_
  refine j_iload_n c dJ6_bitCount_0f7a4_15 rfl ?_
  refine j_iconst c (nI 2) dJ6_bitCount_0f7a4_16 (by decide) ?_
  refine j_iushr c _ dJ6_bitCount_0f7a4_17 rfl ?_
  refine j_ldcw c 858993459 bc_266 dJ6_bitCount_0f7a4_18 ?_
  refine j_iand c _ dJ6_bitCount_0f7a4_21 rfl ?_
  refine j_iadd c (bc2 (bc1 x)) dJ6_bitCount_0f7a4_22 rfl ?_
  refine j_istore_n c dJ6_bitCount_0f7a4_23 (Nat.le_of_ble_eq_true rfl) rfl ?_
  refine j_iload_n c dJ6_bitCount_0f7a4_24 rfl ?_
  refine j_iload_n c dJ6_bitCount_0f7a4_25 rfl ?_
  refine j_iconst c (nI 4) dJ6_bitCount_0f7a4_26 (by decide) ?_
  refine j_iushr c _ dJ6_bitCount_0f7a4_27 rfl ?_
  refine j_iadd c _ dJ6_bitCount_0f7a4_28 rfl ?_
  refine j_ldcw c 252645135 bc_267 dJ6_bitCount_0f7a4_29 ?_
  refine j_iand c (bc3 (bc2 (bc1 x))) dJ6_bitCount_0f7a4_32 rfl ?_
  refine j_istore_n c dJ6_bitCount_0f7a4_33 (Nat.le_of_ble_eq_true rfl) rfl ?_
  refine j_iload_n c dJ6_bitCount_0f7a4_34 rfl ?_
  refine j_iload_n c dJ6_bitCount_0f7a4_35 rfl ?_
  refine j_bipush c (nI 8) dJ6_bitCount_0f7a4_36 (by decide) ?_
  refine j_iushr c _ dJ6_bitCount_0f7a4_38 rfl ?_
  refine j_iadd c (bcE (bc3 (bc2 (bc1 x)))) dJ6_bitCount_0f7a4_39 rfl ?_
  refine j_istore_n c dJ6_bitCount_0f7a4_40 (Nat.le_of_ble_eq_true rfl) rfl ?_
  refine j_iload_n c dJ6_bitCount_0f7a4_41 rfl ?_
  refine j_iload_n c dJ6_bitCount_0f7a4_42 rfl ?_
  refine j_bipush c (nI 16) dJ6_bitCount_0f7a4_43 (by decide) ?_
  refine j_iushr c _ dJ6_bitCount_0f7a4_45 rfl ?_
  refine j_iadd c (bcS (bcE (bc3 (bc2 (bc1 x))))) dJ6_bitCount_0f7a4_46 rfl ?_
  refine j_istore_n c dJ6_bitCount_0f7a4_47 (Nat.le_of_ble_eq_true rfl) rfl ?_
  refine j_iload_n c dJ6_bitCount_0f7a4_48 rfl ?_
  refine j_bipush c (nI 63) dJ6_bitCount_0f7a4_49 (by decide) ?_
  refine j_iand c (bcA x) dJ6_bitCount_0f7a4_51 rfl ?_
  exact j_iret c r dJ6_bitCount_0f7a4_52 rfl ⟨by rw [bcA_ok hx], rfl⟩
