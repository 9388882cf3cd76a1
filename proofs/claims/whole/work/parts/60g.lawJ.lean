-- ===== 60g: the law's start, over places =====
theorem law_J {p : Program} {l : Launch} {e : Env} {R : Room} {s : State} {m : MethodId} {args : Array Value} {below : List Frame} {meth : Method} {c : Code} {D : va_G} {K : CK} {ad0 : Nat → Nat} {A : Nat → Prop} {Q : State → Prop} {c0 s0 pc k n b x0 y0 z0 : Nat} {ws2 ws3 : va_W} (h2 : poX2 x0 K ws2) (h3 : poX3 y0 K ws3)
    (n1 : ∀ ad : Nat → Nat, ad 68 = b → adInj ad → (∀ i, i < 68 → A (ad i)) → J (p, l, e, R, s, m, args, below, meth, c, D, K, ad, A, 7, k, n, Q) pc [some (.inr 68), some (.inr 0), some (.inr 50), some (.inr 67), none, none, none] [] s00) : JW (p, l, e, R, s, m, args, below, meth, c, D, K, ad0, A, 7, c0, s0, Q) pc [(3, .ref z0), (2, .ref y0), (1, .ref x0), (0, .ref b)] [] ((ws2 ++ ws3) ++ [(z0, .inl (K.2.2.2, 1, .inr (.inl (fun _ => 0))))]) k n := by
  intro H locs ls hP hD hS hl
  obtain ⟨ad, a68, a0, a50, a67, hall⟩ := pl_all (D := D) (H := H) (b := b) (z0 := z0) h2 h3
  obtain ⟨w1, w2, w3⟩ := PlA.all hall hP hD
  have hl' : lv_has ls 7 (lvl ad 0 [some (.inr 68), some (.inr 0), some (.inr 50), some (.inr 67), none, none, none]) := by
    show lv_has ls 7 [(0, .ref (ad 68)), (1, .ref (ad 0)), (2, .ref (ad 50)), (3, .ref (ad 67))]
    rw [a68, a0, a50, a67]
    exact lv_sub hl [3, 2, 1, 0] rfl
  exact n1 ad a68 w2 w3 rfl H locs ls w1 hS hl'
theorem bmpN_s (k : Nat) (Γ : Gm) : bmpN (k + 1) Γ = bmpN k (bmp Γ) := rfl
theorem bmp_eq {p : Program} {l : Launch} {e : Env} {R : Room} {s : State} {m : MethodId} {args : Array Value} {below : List Frame} {meth : Method} {c : Code} {D : va_G} {K : CK} {ad : Nat → Nat} {A : Nat → Prop} {Q : State → Prop} {nL cells slots : Nat} : bmp (p, l, e, R, s, m, args, below, meth, c, D, K, ad, A, nL, cells, slots, Q) = (p, l, e, R, s, m, args, below, meth, c, D, K, ad, A, nL, cells + 1, slots + 6, Q) := rfl
theorem bmpN_eq {p : Program} {l : Launch} {e : Env} {R : Room} {s : State} {m : MethodId} {args : Array Value} {below : List Frame} {meth : Method} {c : Code} {D : va_G} {K : CK} {ad : Nat → Nat} {A : Nat → Prop} {Q : State → Prop} {nL : Nat} (k : Nat) : ∀ cells slots c2 s2 : Nat, cells + k = c2 → slots + 6 * k = s2 → bmpN k (p, l, e, R, s, m, args, below, meth, c, D, K, ad, A, nL, cells, slots, Q) = (p, l, e, R, s, m, args, below, meth, c, D, K, ad, A, nL, c2, s2, Q) := by
  induction k with
  | zero =>
    intro cells slots c2 s2 h1 h2
    have e1 : cells = c2 := by omega
    have e2 : slots = s2 := by omega
    subst e1
    subst e2
    rfl
  | succ k ih =>
    intro cells slots c2 s2 h1 h2
    rw [bmpN_s, bmp_eq]
    exact ih (cells + 1) (slots + 6) c2 s2 (by omega) (by omega)
