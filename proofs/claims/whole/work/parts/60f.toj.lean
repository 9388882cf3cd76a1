-- ===== 60f: the 68 new cells as the 68 places =====
def adL (l : List Nat) (i : Nat) : Nat := l.getD i 0
theorem lt_succ_all {P : Nat → Prop} {n : Nat} (h : ∀ p, p < n → P p) (hn : P n) : ∀ p, p < n + 1 → P p := fun p hp => by
  rcases Nat.lt_or_eq_of_le (Nat.le_of_lt_succ hp) with h1 | rfl
  · exact h p h1
  · exact hn
theorem all68 {P : Nat → Prop} (h0 : P 0) (h1 : P 1) (h2 : P 2) (h3 : P 3) (h4 : P 4) (h5 : P 5) (h6 : P 6) (h7 : P 7) (h8 : P 8) (h9 : P 9) (h10 : P 10) (h11 : P 11) (h12 : P 12) (h13 : P 13) (h14 : P 14) (h15 : P 15) (h16 : P 16) (h17 : P 17) (h18 : P 18) (h19 : P 19) (h20 : P 20) (h21 : P 21) (h22 : P 22) (h23 : P 23) (h24 : P 24) (h25 : P 25) (h26 : P 26) (h27 : P 27) (h28 : P 28) (h29 : P 29) (h30 : P 30) (h31 : P 31) (h32 : P 32) (h33 : P 33) (h34 : P 34) (h35 : P 35) (h36 : P 36) (h37 : P 37) (h38 : P 38) (h39 : P 39) (h40 : P 40) (h41 : P 41) (h42 : P 42) (h43 : P 43) (h44 : P 44) (h45 : P 45) (h46 : P 46) (h47 : P 47) (h48 : P 48) (h49 : P 49) (h50 : P 50) (h51 : P 51) (h52 : P 52) (h53 : P 53) (h54 : P 54) (h55 : P 55) (h56 : P 56) (h57 : P 57) (h58 : P 58) (h59 : P 59) (h60 : P 60) (h61 : P 61) (h62 : P 62) (h63 : P 63) (h64 : P 64) (h65 : P 65) (h66 : P 66) (h67 : P 67) : ∀ p, p < 68 → P p := lt_succ_all (lt_succ_all (lt_succ_all (lt_succ_all (lt_succ_all (lt_succ_all (lt_succ_all (lt_succ_all (lt_succ_all (lt_succ_all (lt_succ_all (lt_succ_all (lt_succ_all (lt_succ_all (lt_succ_all (lt_succ_all (lt_succ_all (lt_succ_all (lt_succ_all (lt_succ_all (lt_succ_all (lt_succ_all (lt_succ_all (lt_succ_all (lt_succ_all (lt_succ_all (lt_succ_all (lt_succ_all (lt_succ_all (lt_succ_all (lt_succ_all (lt_succ_all (lt_succ_all (lt_succ_all (lt_succ_all (lt_succ_all (lt_succ_all (lt_succ_all (lt_succ_all (lt_succ_all (lt_succ_all (lt_succ_all (lt_succ_all (lt_succ_all (lt_succ_all (lt_succ_all (lt_succ_all (lt_succ_all (lt_succ_all (lt_succ_all (lt_succ_all (lt_succ_all (lt_succ_all (lt_succ_all (lt_succ_all (lt_succ_all (lt_succ_all (lt_succ_all (lt_succ_all (lt_succ_all (lt_succ_all (lt_succ_all (lt_succ_all (lt_succ_all (lt_succ_all (lt_succ_all (lt_succ_all (lt_succ_all (fun p hp => absurd hp (Nat.not_lt_zero p)) h0) h1) h2) h3) h4) h5) h6) h7) h8) h9) h10) h11) h12) h13) h14) h15) h16) h17) h18) h19) h20) h21) h22) h23) h24) h25) h26) h27) h28) h29) h30) h31) h32) h33) h34) h35) h36) h37) h38) h39) h40) h41) h42) h43) h44) h45) h46) h47) h48) h49) h50) h51) h52) h53) h54) h55) h56) h57) h58) h59) h60) h61) h62) h63) h64) h65) h66) h67
def PlA (D : va_G) (K : CK) (ad : Nat → Nat) (ws : va_W) (H : Heap) (g : List Nat) (p : Nat) : Prop := ∃ e : va_E, ws[g.getD p 0]? = some (ad p, e) ∧ (va_at D vwCl (ad p, e) H → va_at D vwCl (ad p, cel K ad s00 p) H)
theorem pl_int {D : va_G} {K : CK} {ad : Nat → Nat} {H : Heap} {p n : Nat} {f : Nat → Int32} (hl : lay p = .inr (0, n)) (hf : ∀ j, f j = s00 p j) : va_at D vwCl (ad p, .inl (K.1, n, .inl f)) H → va_at D vwCl (ad p, cel K ad s00 p) H := fun h => by
  rw [cel_int hl]
  exact at_ints (fun j _ => hf j) h
theorem pl_bool {D : va_G} {K : CK} {ad : Nat → Nat} {H : Heap} {p n : Nat} {f : Nat → Int32} (hl : lay p = .inr (1, n)) (hf : ∀ j, f j = s00 p j) : va_at D vwCl (ad p, .inl (K.2.1, n, .inl f)) H → va_at D vwCl (ad p, cel K ad s00 p) H := fun h => by
  rw [cel_bool hl]
  exact at_ints (fun j _ => hf j) h
theorem pl_refs {D : va_G} {K : CK} {ad : Nat → Nat} {H : Heap} {p n : Nat} {f : Nat → Option Nat} (hl : lay p = .inr (2, n)) (hf : ∀ j, j < n → f j = some (ad (15 + 7 * j))) : va_at D vwCl (ad p, .inl (K.2.2.1, n, .inr (.inr (.inr (.inr f))))) H → va_at D vwCl (ad p, cel K ad s00 p) H := fun h => by
  rw [cel_refs hl]
  exact at_refs hf h
theorem pl_long {D : va_G} {K : CK} {ad : Nat → Nat} {H : Heap} {p n : Nat} {f : Nat → Int64} (hl : lay p = .inr (3, n)) (hf : ∀ j, f j = (s00 p j).toInt64) : va_at D vwCl (ad p, .inl (K.2.2.2, n, .inr (.inl f))) H → va_at D vwCl (ad p, cel K ad s00 p) H := fun h => by
  rw [cel_long hl]
  exact at_longs (fun j _ => hf j) h
theorem pl_obj {D : va_G} {K : CK} {ad : Nat → Nat} {H : Heap} {p ci : Nat} {fs : List (Option Nat)} {vs : List Value} (hl : lay p = .inl (ci, fs)) (hv : fv ad s00 p 0 fs = vs) : va_at D vwCl (ad p, .inr (ci, vs)) H → va_at D vwCl (ad p, cel K ad s00 p) H := fun h => by
  rw [cel_obj hl, hv]
  exact h
theorem z00 {p : Nat} (h0 : p ≠ 0 ∧ p ≠ 50 ∧ ¬ (p = 1 ∨ p = 4 ∨ p = 6 ∨ p = 51 ∨ p = 53)) : ∀ j, (fun _ : Nat => (0 : Int32)) j = s00 p j := fun j => by
  rw [s00_z h0.1 h0.2.1 h0.2.2, nI_0]
theorem o00 {p : Nat} (h : p = 1 ∨ p = 4 ∨ p = 6 ∨ p = 51 ∨ p = 53) : ∀ j, upd (fun _ : Nat => (0 : Int32)) 0 (nI 1) j = s00 p j := fun j => by
  rw [s00_1 h, nI_0]
  rfl
def gPl : List Nat := [0, 1, 2, 3, 4, 5, 6, 7, 8, 9, 10, 11, 19, 20, 21, 22, 23, 24, 25, 26, 27, 28, 29, 30, 31, 32, 33, 34, 35, 36, 37, 38, 39, 40, 41, 42, 43, 44, 45, 46, 47, 48, 49, 12, 13, 14, 15, 16, 17, 18, 50, 51, 52, 53, 54, 55, 56, 57, 58, 59, 60, 61, 62, 63, 64, 65, 66, 67]
theorem gPl_inj : ∀ i, i < 68 → ∀ j, j < 68 → gPl.getD i 0 = gPl.getD j 0 → i = j := by decide +kernel
theorem PlA.all {D : va_G} {K : CK} {ad : Nat → Nat} {ws : va_W} {H : Heap} {A : Nat → Prop} (h : ∀ p, p < 68 → PlA D K ad ws H gPl p) (hP : va_P D vwCl ws H) (hD : va_D A ws) : va_P D vwCl (wld K ad s00) H ∧ adInj ad ∧ ∀ i, i < 68 → A (ad i) := by
  refine ⟨wld_at (fun p hp => ?_), fun i j h1 h2 he => ?_, fun i hi => ?_⟩
  · obtain ⟨e, e1, e2⟩ := h p hp
    exact e2 (hP _ _ e1)
  · obtain ⟨e, e1, _⟩ := h i h1
    obtain ⟨e', e1', _⟩ := h j h2
    exact gPl_inj i h1 j h2 (hD.1 _ _ _ _ e1 e1' he)
  · obtain ⟨e, e1, _⟩ := h i hi
    exact hD.2 _ _ e1
theorem pl_all {D : va_G} {K : CK} {H : Heap} {x0 y0 z0 b : Nat} {ws2 ws3 : va_W} (h2 : poX2 x0 K ws2) (h3 : poX3 y0 K ws3) : ∃ ad : Nat → Nat, ad 68 = b ∧ ad 0 = x0 ∧ ad 50 = y0 ∧ ad 67 = z0 ∧ ∀ p, p < 68 → PlA D K ad ((ws2 ++ ws3) ++ [(z0, .inl (K.2.2.2, 1, .inr (.inl (fun _ => 0))))]) H gPl p := by
  obtain ⟨o1, a0, a1, a2, a3, a4, a5, a6, a7, a8, o11, o12, b0_0, b0_1, b0_2, b0_3, b0_4, b0_5, o19, o20, o21, o22, b1_0, b1_1, b1_2, b1_3, b1_4, b1_5, o29, b2_0, b2_1, b2_2, b2_3, b2_4, b2_5, o36, b3_0, b3_1, b3_2, b3_3, b3_4, b3_5, o43, b4_0, b4_1, b4_2, b4_3, b4_4, b4_5, rfl⟩ := h2
  obtain ⟨q0, q1, q2, q3, q4, q5, q6, q7, q8, q9, q10, q11, q12, q13, q14, q15, rfl⟩ := h3
  refine ⟨adL [x0, o1, a0, a1, a2, a3, a4, a5, a6, a7, a8, o11, o19, o20, o21, o22, b1_0, b1_1, b1_2, b1_3, b1_4, b1_5, o29, b2_0, b2_1, b2_2, b2_3, b2_4, b2_5, o36, b3_0, b3_1, b3_2, b3_3, b3_4, b3_5, o43, b4_0, b4_1, b4_2, b4_3, b4_4, b4_5, o12, b0_0, b0_1, b0_2, b0_3, b0_4, b0_5, y0, q0, q1, q2, q3, q4, q5, q6, q7, q8, q9, q10, q11, q12, q13, q14, q15, z0, b], rfl, rfl, rfl, rfl, ?_⟩
  refine all68 ?_ ?_ ?_ ?_ ?_ ?_ ?_ ?_ ?_ ?_ ?_ ?_ ?_ ?_ ?_ ?_ ?_ ?_ ?_ ?_ ?_ ?_ ?_ ?_ ?_ ?_ ?_ ?_ ?_ ?_ ?_ ?_ ?_ ?_ ?_ ?_ ?_ ?_ ?_ ?_ ?_ ?_ ?_ ?_ ?_ ?_ ?_ ?_ ?_ ?_ ?_ ?_ ?_ ?_ ?_ ?_ ?_ ?_ ?_ ?_ ?_ ?_ ?_ ?_ ?_ ?_ ?_ ?_
  · exact ⟨_, rfl, pl_obj rfl rfl⟩
  · exact ⟨_, rfl, pl_obj rfl rfl⟩
  · exact ⟨_, rfl, pl_int rfl (z00 (by decide))⟩
  · exact ⟨_, rfl, pl_int rfl (z00 (by decide))⟩
  · exact ⟨_, rfl, pl_int rfl (o00 (by decide))⟩
  · exact ⟨_, rfl, pl_int rfl (z00 (by decide))⟩
  · exact ⟨_, rfl, pl_int rfl (o00 (by decide))⟩
  · exact ⟨_, rfl, pl_int rfl (z00 (by decide))⟩
  · exact ⟨_, rfl, pl_int rfl (z00 (by decide))⟩
  · exact ⟨_, rfl, pl_int rfl (z00 (by decide))⟩
  · exact ⟨_, rfl, pl_int rfl (z00 (by decide))⟩
  · exact ⟨_, rfl, pl_refs rfl (fun j hj => by rcases (show j = 0 ∨ j = 1 ∨ j = 2 ∨ j = 3 by omega) with rfl | rfl | rfl | rfl <;> rfl)⟩
  · exact ⟨_, rfl, pl_int rfl (z00 (by decide))⟩
  · exact ⟨_, rfl, pl_int rfl (z00 (by decide))⟩
  · exact ⟨_, rfl, pl_bool rfl (z00 (by decide))⟩
  · exact ⟨_, rfl, pl_obj rfl rfl⟩
  · exact ⟨_, rfl, pl_int rfl (z00 (by decide))⟩
  · exact ⟨_, rfl, pl_int rfl (z00 (by decide))⟩
  · exact ⟨_, rfl, pl_int rfl (z00 (by decide))⟩
  · exact ⟨_, rfl, pl_int rfl (z00 (by decide))⟩
  · exact ⟨_, rfl, pl_int rfl (z00 (by decide))⟩
  · exact ⟨_, rfl, pl_int rfl (z00 (by decide))⟩
  · exact ⟨_, rfl, pl_obj rfl rfl⟩
  · exact ⟨_, rfl, pl_int rfl (z00 (by decide))⟩
  · exact ⟨_, rfl, pl_int rfl (z00 (by decide))⟩
  · exact ⟨_, rfl, pl_int rfl (z00 (by decide))⟩
  · exact ⟨_, rfl, pl_int rfl (z00 (by decide))⟩
  · exact ⟨_, rfl, pl_int rfl (z00 (by decide))⟩
  · exact ⟨_, rfl, pl_int rfl (z00 (by decide))⟩
  · exact ⟨_, rfl, pl_obj rfl rfl⟩
  · exact ⟨_, rfl, pl_int rfl (z00 (by decide))⟩
  · exact ⟨_, rfl, pl_int rfl (z00 (by decide))⟩
  · exact ⟨_, rfl, pl_int rfl (z00 (by decide))⟩
  · exact ⟨_, rfl, pl_int rfl (z00 (by decide))⟩
  · exact ⟨_, rfl, pl_int rfl (z00 (by decide))⟩
  · exact ⟨_, rfl, pl_int rfl (z00 (by decide))⟩
  · exact ⟨_, rfl, pl_obj rfl rfl⟩
  · exact ⟨_, rfl, pl_int rfl (z00 (by decide))⟩
  · exact ⟨_, rfl, pl_int rfl (z00 (by decide))⟩
  · exact ⟨_, rfl, pl_int rfl (z00 (by decide))⟩
  · exact ⟨_, rfl, pl_int rfl (z00 (by decide))⟩
  · exact ⟨_, rfl, pl_int rfl (z00 (by decide))⟩
  · exact ⟨_, rfl, pl_int rfl (z00 (by decide))⟩
  · exact ⟨_, rfl, pl_obj rfl rfl⟩
  · exact ⟨_, rfl, pl_int rfl (z00 (by decide))⟩
  · exact ⟨_, rfl, pl_int rfl (z00 (by decide))⟩
  · exact ⟨_, rfl, pl_int rfl (z00 (by decide))⟩
  · exact ⟨_, rfl, pl_int rfl (z00 (by decide))⟩
  · exact ⟨_, rfl, pl_int rfl (z00 (by decide))⟩
  · exact ⟨_, rfl, pl_int rfl (z00 (by decide))⟩
  · exact ⟨_, rfl, pl_obj rfl rfl⟩
  · exact ⟨_, rfl, pl_int rfl (o00 (by decide))⟩
  · exact ⟨_, rfl, pl_int rfl (z00 (by decide))⟩
  · exact ⟨_, rfl, pl_int rfl (o00 (by decide))⟩
  · exact ⟨_, rfl, pl_int rfl (z00 (by decide))⟩
  · exact ⟨_, rfl, pl_int rfl (z00 (by decide))⟩
  · exact ⟨_, rfl, pl_int rfl (z00 (by decide))⟩
  · exact ⟨_, rfl, pl_int rfl (z00 (by decide))⟩
  · exact ⟨_, rfl, pl_int rfl (z00 (by decide))⟩
  · exact ⟨_, rfl, pl_int rfl (z00 (by decide))⟩
  · exact ⟨_, rfl, pl_int rfl (z00 (by decide))⟩
  · exact ⟨_, rfl, pl_int rfl (z00 (by decide))⟩
  · exact ⟨_, rfl, pl_int rfl (z00 (by decide))⟩
  · exact ⟨_, rfl, pl_int rfl (z00 (by decide))⟩
  · exact ⟨_, rfl, pl_int rfl (z00 (by decide))⟩
  · exact ⟨_, rfl, pl_int rfl (z00 (by decide))⟩
  · exact ⟨_, rfl, pl_int rfl (z00 (by decide))⟩
  · exact ⟨_, rfl, pl_long rfl (fun j => by rw [s00_z (by decide) (by decide) (by decide)]; decide)⟩
