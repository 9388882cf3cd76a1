-- ===== 08: rows of answers; what stays =====
theorem s2_sR (σ : Sg) (p k : Nat) (F : Nat → Int32) (v : Int32) : s2 (sR σ p F) p k v = sR σ p (upd F k v) := by
  funext q
  simp only [s2, sR]
  by_cases h : q = p
  · simp [h]
  · simp [h]
theorem sR_sR (σ : Sg) (p : Nat) (F G : Nat → Int32) : sR (sR σ p F) p G = sR σ p G := by
  funext q
  simp only [sR]
  by_cases h : q = p
  · simp [h]
  · simp [h]
theorem sR_id (σ : Sg) (p : Nat) : sR σ p (σ p) = σ := by
  funext q
  simp only [sR]
  by_cases h : q = p
  · simp [h]
  · simp [h]
theorem s2_at (σ : Sg) (p k : Nat) (v : Int32) : s2 σ p k v p k = v := by simp [s2, upd]
theorem s2_nk {σ : Sg} {p k j : Nat} {v : Int32} (h : j ≠ k) : s2 σ p k v p j = σ p j := by simp [s2, upd, h]
theorem s2_np {σ : Sg} {p q k : Nat} {v : Int32} (h : q ≠ p) : s2 σ p k v q = σ q := by simp [s2, h]
/-- what a question leaves of the reference as it was -/
def keepM (σ σ' : Sg) : Prop := (∀ q, q < 61 → q ≠ 50 → σ' q = σ q) ∧ (∀ k, k ≠ 0 → k ≠ 22 → k ≠ 23 → σ' 50 k = σ 50 k) ∧ ∀ q, 67 ≤ q → σ' q = σ q
theorem keepM.rfl' (σ : Sg) : keepM σ σ := ⟨fun _ _ _ => rfl, fun _ _ _ _ => rfl, fun _ _ => rfl⟩
theorem keepM.trans {a b c : Sg} (h1 : keepM a b) (h2 : keepM b c) : keepM a c := ⟨fun q x y => (h2.1 q x y).trans (h1.1 q x y), fun k x y z => (h2.2.1 k x y z).trans (h1.2.1 k x y z), fun q x => (h2.2.2 q x).trans (h1.2.2 q x)⟩
theorem keepM.row {σ : Sg} {p : Nat} {F : Nat → Int32} (h1 : 61 ≤ p) (h2 : p < 67) : keepM σ (sR σ p F) := ⟨fun q x y => sR_ne (by omega), fun k _ _ _ => by rw [sR_ne (by omega)], fun q x => sR_ne (by omega)⟩
theorem keepM.fld {σ : Sg} {k : Nat} {v : Int32} (h : k = 0 ∨ k = 22 ∨ k = 23) : keepM σ (s2 σ 50 k v) := ⟨fun q x y => s2_np y, fun j h0 h1 h2 => s2_nk (by omega), fun q x => s2_np (by omega)⟩
theorem InvM.keep {T : TS} {mo : Option (Nat × Nat)} {σ σ' : Sg} (h : InvM T mo σ) (hk : keepM σ σ') : InvM T mo σ' := by
  obtain ⟨k1, k2, k3⟩ := hk
  obtain ⟨a1, a2, a3, a4, a5, a6, a7, a8, a9, a10, a11, a12, a13, a14, a15, a16⟩ := h
  refine ⟨?_, ?_, ?_, ?_, ?_, ?_, ?_, ?_, ?_, ?_, ?_, ?_, ?_, ?_, ?_, ?_⟩
  · rw [k2 1 (by decide) (by decide) (by decide)]; exact a1
  · rw [k1 51 (by decide) (by decide)]; exact a2
  · rw [k1 52 (by decide) (by decide)]; exact a3
  · rw [k1 53 (by decide) (by decide)]; exact a4
  · rw [k1 54 (by decide) (by decide)]; exact a5
  · rw [k2 6 (by decide) (by decide) (by decide)]; exact a6
  · rw [k1 55 (by decide) (by decide)]; exact a7
  · rw [k1 56 (by decide) (by decide)]; exact a8
  · rw [k1 57 (by decide) (by decide), k1 58 (by decide) (by decide)]; exact a9
  · rw [k2 11 (by decide) (by decide) (by decide)]; exact a10
  · rw [k1 60 (by decide) (by decide)]; exact a11
  · rw [k1 59 (by decide) (by decide)]; exact a12
  · rw [k2 14 (by decide) (by decide) (by decide)]; exact a13
  · rw [k2 15 (by decide) (by decide) (by decide)]; exact a14
  · rw [k2 19 (by decide) (by decide) (by decide)]; exact a15
  · rw [k2 20 (by decide) (by decide) (by decide)]; exact a16
/-- the answers of all numbers up to 16^pl, -3 where there is no call; behind, as it was -/
def rowA (T : TS) (f : Nat) (mo : Option (Nat × Nat)) (b : Nat) (call : Nat) : Int32 := if vcall (tn T) (tpl T f) call then ansI (tls T) (tgx (ttg T f) mo) b call else -3
def rowU (A : Nat → Int32) (N : Nat) (old : Nat → Int32) (call : Nat) : Int32 := if call < N then A call else old call
theorem rowU_s (A : Nat → Int32) (N : Nat) (old : Nat → Int32) : upd (rowU A N old) N (A N) = rowU A (N + 1) old := by
  funext j
  simp only [upd, rowU]
  by_cases h : j = N
  · simp [h]
  · by_cases h2 : j < N
    · simp [h, h2, show j < N + 1 by omega]
    · simp [h, h2, show ¬ j < N + 1 by omega]
theorem rowU_0 (A : Nat → Int32) (old : Nat → Int32) : rowU A 0 old = old := by funext j; simp [rowU]
theorem rowU_lt {A : Nat → Int32} {N : Nat} {old : Nat → Int32} {c : Nat} (h : c < N) : rowU A N old c = A c := by simp [rowU, h]
theorem ansI_ne3 (ls : Nat → List Nat) (tg : Nat → Option Nat) (b call : Nat) : ansI ls tg b call ≠ -3 := by
  unfold ansI
  rcases fstI_cases (appB ls tg call) (befB ls tg b call) with ⟨h, _⟩ | ⟨h, _⟩ | ⟨m, hm, h, _⟩
  · rw [h]; decide
  · rw [h]; decide
  · rw [h]
    intro e
    have h2 : (nI m).toInt = (-3 : Int32).toInt := by rw [e]
    rw [nI_toInt (by omega)] at h2
    have : (-3 : Int32).toInt = -3 := by decide
    omega
theorem rowA_v {T : TS} {f : Nat} {mo : Option (Nat × Nat)} {b call : Nat} : rowA T f mo b call ≠ -3 ↔ vcall (tn T) (tpl T f) call = true := by
  unfold rowA
  by_cases h : vcall (tn T) (tpl T f) call = true
  · simp [h, ansI_ne3]
  · simp [h]
/-- below no other number with the same answer -/
def topB (A : Nat → Int32) (ls : Nat → List Nat) (N call : Nat) : Bool := (List.range N).all (fun o => (o == call) || (!decide (A o = A call) || !le3 ls call o))
/-- the k-th of those with a property, or how many (k -1) -/
def kth (P : Nat → Bool) (N : Nat) (k : Int32) : Int32 := match fnd (fun c => P c && decide (nI (cnt P c) = k)) N with
  | some c => nI c
  | none => if k = -1 then nI (cnt P N) else -1
theorem kth_hit {P : Nat → Bool} {N c : Nat} {k : Int32} (hc : c < N) (hp : P c = true) (hk : nI (cnt P c) = k) (h0 : ∀ j, j < c → (P j && decide (nI (cnt P j) = k)) = false) : kth P N k = nI c := by
  unfold kth
  rw [fnd_hit hc (by simp [hp, hk]) h0]
theorem kth_no {P : Nat → Bool} {N : Nat} {k : Int32} (h0 : ∀ j, j < N → (P j && decide (nI (cnt P j) = k)) = false) : kth P N k = if k = -1 then nI (cnt P N) else -1 := by
  unfold kth
  rw [fnd_no h0]
theorem kth_congr {P Q : Nat → Bool} {N : Nat} {k : Int32} (h : ∀ c, c < N → P c = Q c) : kth P N k = kth Q N k := by
  unfold kth
  rw [cnt_congr h, fnd_congr (fun c hc => by rw [h c hc, cnt_congr (fun j hj => h j (by omega))])]
/-- a call with another class at a place -/
def rep (c p o : Nat) : Nat := c - dg c p * 16 ^ p + o * 16 ^ p
def alB (A : Nat → Int32) (N p one other : Nat) : Bool := (List.range N).all (fun c => decide (A c = -3) || (!decide (dg c p = one) || decide (A c = A (rep c p other))))
theorem dg_part {c p : Nat} : dg c p * 16 ^ p ≤ c := by
  unfold dg
  have h1 : c / 16 ^ p % 16 ≤ c / 16 ^ p := Nat.mod_le _ _
  exact Nat.le_trans (Nat.mul_le_mul_right _ h1) (Nat.div_mul_le_self c (16 ^ p))
theorem rep_self {c p : Nat} : rep c p (dg c p) = c := by
  unfold rep
  have := dg_part (c := c) (p := p)
  omega
theorem rep_dg {c p o q pl : Nat} (hc : c < 16 ^ pl) (hpl : pl ≤ 3) (hp : p < pl) (ho : o < 16) : rep c p o < 16 ^ pl ∧ dg (rep c p o) q = if q = p then o else dg c q := by
  have h4 : c < 4096 := Nat.lt_of_lt_of_le hc (p16 hpl)
  have e := dg3 c h4
  have d0 := dg_lt c 0
  have d1 := dg_lt c 1
  have d2 := dg_lt c 2
  have key : ∃ a b e', a < 16 ∧ b < 16 ∧ e' < 16 ∧ rep c p o = a + 16 * b + 256 * e' ∧ (a = if 0 = p then o else dg c 0) ∧ (b = if 1 = p then o else dg c 1) ∧ (e' = if 2 = p then o else dg c 2) := by
    unfold rep
    rcases (show p = 0 ∨ p = 1 ∨ p = 2 by omega) with rfl | rfl | rfl
    · exact ⟨o, dg c 1, dg c 2, ho, d1, d2, by simp only [Nat.pow_zero]; omega, by simp, by simp, by simp⟩
    · exact ⟨dg c 0, o, dg c 2, d0, ho, d2, by simp only [Nat.pow_one]; omega, by simp, by simp, by simp⟩
    · exact ⟨dg c 0, dg c 1, o, d0, d1, ho, by simp only [show (16 : Nat) ^ 2 = 256 from rfl]; omega, by simp, by simp, by simp⟩
  obtain ⟨a, b, e', ha, hb, he, hr, ea, eb, ee⟩ := key
  have hm := dg_mk ha hb he
  rw [hr]
  have hlt : a + 16 * b + 256 * e' < 16 ^ pl := by
    rcases (show pl = 0 ∨ pl = 1 ∨ pl = 2 ∨ pl = 3 by omega) with rfl | rfl | rfl | rfl
    · omega
    · have z1 := dg_hi (p := 1) hc (by omega)
      have z2 := dg_hi (p := 2) hc (by omega)
      rw [if_neg (by omega)] at eb ee
      simp only [Nat.pow_one]; omega
    · have z2 := dg_hi (p := 2) hc (by omega)
      rw [if_neg (by omega)] at ee
      simp only [show (16 : Nat) ^ 2 = 256 from rfl]; omega
    · simp only [show (16 : Nat) ^ 3 = 4096 from rfl]; omega
  refine ⟨hlt, ?_⟩
  rcases (show q = 0 ∨ q = 1 ∨ q = 2 ∨ 3 ≤ q by omega) with rfl | rfl | rfl | h3
  · rw [hm.1]; exact ea
  · rw [hm.2.1]; exact eb
  · rw [hm.2.2]; exact ee
  · rw [if_neg (by omega), dg_hi hlt (by omega), dg_hi hc (by omega)]
theorem rep_v {n pl c p o : Nat} (h : vcall n pl c = true) (hpl : pl ≤ 3) (hp : p < pl) (ho : o < n) (hn : n ≤ 16) : vcall n pl (rep c p o) = true := by
  have h1 := vcall_spec h
  refine vcall_of (rep_dg (q := 0) h1.1 hpl hp (by omega)).1 hpl (by omega) (fun q _ => ?_)
  rw [(rep_dg (q := q) h1.1 hpl hp (by omega)).2]
  split
  · exact ho
  · exact vcall_dg h hpl (by omega)
theorem rep_I {c p o : Nat} (hp : p < 3) (ho : o < 16) (hc : c < 4096) : nI c + ((nI o - nI (dg c p)) <<< (nI (4 * p) &&& 31)) = nI (rep c p o) := by
  have key : ∀ (p : Fin 3) (a b : Fin 16), (nI a.val - nI b.val) <<< (nI (4 * p.val) &&& 31) = nI (a.val * 16 ^ p.val) - nI (b.val * 16 ^ p.val) := by decide +kernel
  rw [key ⟨p, hp⟩ ⟨o, ho⟩ ⟨dg c p, dg_lt c p⟩]
  have h1 := dg_part (c := c) (p := p)
  unfold rep
  show nI c + (nI (o * 16 ^ p) - nI (dg c p * 16 ^ p)) = _
  rw [← nI_add]
  have e : nI c = nI (c - dg c p * 16 ^ p) + nI (dg c p * 16 ^ p) := by rw [nI_add, Nat.sub_add_cancel h1]
  rw [e, Int32.add_assoc, Int32.add_comm (nI (dg c p * 16 ^ p)), Int32.sub_add_cancel]
