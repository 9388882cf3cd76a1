-- ===== 02a: pure states over the fixed cells =====
abbrev Sg : Type := Nat → Nat → Int32
abbrev PV : Type := Int32 ⊕ Nat
/-- the state with one number changed: place p, index k -/
def s2 (σ : Sg) (p k : Nat) (v : Int32) : Sg := fun q => if q = p then upd (σ p) k v else σ q
/-- the state with one row changed -/
def sR (σ : Sg) (p : Nat) (f : Nat → Int32) : Sg := fun q => if q = p then f else σ q
theorem s2_eq (σ : Sg) (p k : Nat) (v : Int32) : s2 σ p k v = sR σ p (upd (σ p) k v) := rfl
theorem sR_at (σ : Sg) (p : Nat) (f : Nat → Int32) : sR σ p f p = f := if_pos rfl
theorem sR_ne {σ : Sg} {p q : Nat} {f : Nat → Int32} (h : q ≠ p) : sR σ p f q = σ q := if_neg h
/-- what a place is: an object (its class, its fields: a number, or a place), or a row (its kind, its length) -/
abbrev Shp : Type := (Nat × List (Option Nat)) ⊕ (Nat × Nat)
def layF (b : Nat) : Nat → Shp
  | 0 => .inl (1, [none, none, some (b + 1), some (b + 2), some (b + 3), some (b + 4), some (b + 5), some (b + 6), none])
  | 1 => .inr (0, 13)
  | 2 => .inr (0, 12)
  | 3 => .inr (0, 12)
  | 4 => .inr (0, 13)
  | 5 => .inr (0, 48)
  | _ => .inr (0, 6)
def layX : Nat → Shp
  | 0 => .inl (2, [some 1, some 11, some 43, none, none, none, none, some 12, none, some 13, none, some 14])
  | 1 => .inl (0, [none, some 2, some 3, some 4, some 5, some 6, some 7, some 8, some 9, some 10])
  | 2 => .inr (0, 48)
  | 3 => .inr (0, 16)
  | 4 => .inr (0, 16)
  | 5 => .inr (0, 256)
  | 6 => .inr (0, 16)
  | 7 => .inr (0, 256)
  | 8 => .inr (0, 64)
  | 9 => .inr (0, 4)
  | 10 => .inr (0, 4)
  | 11 => .inr (2, 4)
  | 12 => .inr (0, 12)
  | 13 => .inr (0, 4096)
  | _ => .inr (1, 4096)
def layM : Nat → Shp
  | 0 => .inl (3, [none, none, some 51, some 52, some 53, some 54, none, some 55, some 56, some 57, some 58, none, some 59, some 60, none, none, some 61, some 62, some 63, none, none, some 64, none, none, some 65, some 66])
  | 1 => .inr (0, 16)
  | 2 => .inr (0, 256)
  | 3 => .inr (0, 16)
  | 4 => .inr (0, 256)
  | 5 => .inr (0, 4)
  | 6 => .inr (0, 48)
  | 7 => .inr (0, 48)
  | 8 => .inr (0, 48)
  | 9 => .inr (0, 24)
  | 10 => .inr (0, 4)
  | 11 => .inr (0, 64)
  | 12 => .inr (0, 4)
  | 13 => .inr (0, 4)
  | 14 => .inr (0, 13)
  | 15 => .inr (0, 4096)
  | 16 => .inr (0, 12)
  | _ => .inr (3, 1)
def lay (p : Nat) : Shp := if p < 15 then layX p else if p < 50 then layF (15 + (p - 15) / 7 * 7) ((p - 15) % 7) else layM (p - 50)
/-- a FUNCTION's place -/
def FnP (p : Nat) : Prop := ∃ i, i < 5 ∧ p = 15 + 7 * i
theorem lay_fn {p j : Nat} (h : FnP p) (hj : j < 7) : lay (p + j) = layF p j := by
  obtain ⟨i, hi, rfl⟩ := h
  unfold lay
  rw [if_neg (by omega), if_pos (by omega)]
  have h1 : (15 + 7 * i + j - 15) / 7 = i := by omega
  have h2 : (15 + 7 * i + j - 15) % 7 = j := by omega
  rw [h1, h2, Nat.mul_comm]
theorem lf0 {p : Nat} (h : FnP p) : lay p = .inl (1, [none, none, some (p + 1), some (p + 2), some (p + 3), some (p + 4), some (p + 5), some (p + 6), none]) := lay_fn (j := 0) h (by decide)
theorem lf1 {p : Nat} (h : FnP p) : lay (p + 1) = .inr (0, 13) := lay_fn h (by decide)
theorem lf2 {p : Nat} (h : FnP p) : lay (p + 2) = .inr (0, 12) := lay_fn h (by decide)
theorem lf3 {p : Nat} (h : FnP p) : lay (p + 3) = .inr (0, 12) := lay_fn h (by decide)
theorem lf4 {p : Nat} (h : FnP p) : lay (p + 4) = .inr (0, 13) := lay_fn h (by decide)
theorem lf5 {p : Nat} (h : FnP p) : lay (p + 5) = .inr (0, 48) := lay_fn h (by decide)
theorem lf6 {p : Nat} (h : FnP p) : lay (p + 6) = .inr (0, 6) := lay_fn h (by decide)
theorem FnP.lt {p j : Nat} (h : FnP p) (hj : j < 7) : p + j < 68 := by
  obtain ⟨i, hi, rfl⟩ := h
  omega
theorem FnP.lt0 {p : Nat} (h : FnP p) : p < 68 := h.lt (j := 0) (by decide)
theorem FnP.of {i : Nat} (h : i < 4) : FnP (15 + 7 * i) := ⟨i, by omega, rfl⟩
theorem FnP.trial : FnP 43 := ⟨4, by decide, rfl⟩
-- the cells
abbrev CK : Type := ClassId × ClassId × ClassId × ClassId
def tysK (K : CK) : List (ClassId × FieldType) := [(K.1, .int), (K.2.1, .boolean), (K.2.2.1, .object RX1), (K.2.2.2, .long)]
def fv (ad : Nat → Nat) (σ : Sg) (p : Nat) : Nat → List (Option Nat) → List Value
  | _, [] => []
  | k, none :: r => .int (σ p k) :: fv ad σ p (k + 1) r
  | k, some q :: r => .ref (ad q) :: fv ad σ p (k + 1) r
def celS (K : CK) (ad : Nat → Nat) (σ : Sg) (p : Nat) (sh : Shp) : va_E := match sh with
  | .inl (ci, fs) => .inr (ci, fv ad σ p 0 fs)
  | .inr (0, n) => .inl (K.1, n, .inl (σ p))
  | .inr (1, n) => .inl (K.2.1, n, .inl (σ p))
  | .inr (2, n) => .inl (K.2.2.1, n, .inr (.inr (.inr (.inr (fun j => some (ad (15 + 7 * j)))))))
  | .inr (_, n) => .inl (K.2.2.2, n, .inr (.inl (fun j => (σ p j).toInt64)))
def cel (K : CK) (ad : Nat → Nat) (σ : Sg) (p : Nat) : va_E := celS K ad σ p (lay p)
def wld (K : CK) (ad : Nat → Nat) (σ : Sg) : va_W := (List.range 68).map (fun p => (ad p, cel K ad σ p))
theorem wld_get {K : CK} {ad : Nat → Nat} {σ : Sg} {p : Nat} (hp : p < 68) : (wld K ad σ)[p]? = some (ad p, cel K ad σ p) := by
  simp [wld, hp]
theorem wld_len (K : CK) (ad : Nat → Nat) (σ : Sg) : (wld K ad σ).length = 68 := by simp [wld]
theorem fv_int {ad : Nat → Nat} {σ : Sg} {p : Nat} : ∀ {fs : List (Option Nat)} {b k : Nat}, fs[k]? = some none → (fv ad σ p b fs)[k]? = some (.int (σ p (b + k)))
  | [], _, _, h => by simp at h
  | none :: r, b, 0, _ => by simp [fv]
  | some q :: r, b, 0, h => by simp at h
  | none :: r, b, k + 1, h => by
    have h2 := fv_int (ad := ad) (σ := σ) (p := p) (fs := r) (b := b + 1) (k := k) (by simpa using h)
    simp only [fv, List.getElem?_cons_succ, h2]
    rw [show b + 1 + k = b + (k + 1) by omega]
  | some q :: r, b, k + 1, h => by
    have h2 := fv_int (ad := ad) (σ := σ) (p := p) (fs := r) (b := b + 1) (k := k) (by simpa using h)
    simp only [fv, List.getElem?_cons_succ, h2]
    rw [show b + 1 + k = b + (k + 1) by omega]
theorem fv_ref {ad : Nat → Nat} {σ : Sg} {p q : Nat} : ∀ {fs : List (Option Nat)} {b k : Nat}, fs[k]? = some (some q) → (fv ad σ p b fs)[k]? = some (.ref (ad q))
  | [], _, _, h => by simp at h
  | none :: r, b, 0, h => by simp at h
  | some q' :: r, b, 0, h => by simp at h; simp [fv, h]
  | none :: r, b, k + 1, h => by
    have h2 := fv_ref (ad := ad) (σ := σ) (p := p) (fs := r) (b := b + 1) (k := k) (by simpa using h)
    simp only [fv, List.getElem?_cons_succ, h2]
  | some q' :: r, b, k + 1, h => by
    have h2 := fv_ref (ad := ad) (σ := σ) (p := p) (fs := r) (b := b + 1) (k := k) (by simpa using h)
    simp only [fv, List.getElem?_cons_succ, h2]
theorem fv_len {ad : Nat → Nat} {σ : Sg} {p : Nat} : ∀ {fs : List (Option Nat)} {b : Nat}, (fv ad σ p b fs).length = fs.length
  | [], _ => rfl
  | none :: r, b => by simp [fv, fv_len (fs := r)]
  | some q :: r, b => by simp [fv, fv_len (fs := r)]
theorem fv_cong {ad : Nat → Nat} {σ σ' : Sg} {p : Nat} : ∀ {fs : List (Option Nat)} {b : Nat}, (∀ j, fs[j]? = some none → σ p (b + j) = σ' p (b + j)) → fv ad σ p b fs = fv ad σ' p b fs
  | [], _, _ => rfl
  | none :: r, b, h => by
    have h0 := h 0 (by simp)
    have h2 := fv_cong (ad := ad) (σ := σ) (σ' := σ') (p := p) (fs := r) (b := b + 1) (fun j hj => by
      have h3 := h (j + 1) (by simpa using hj)
      rw [show b + 1 + j = b + (j + 1) by omega]
      exact h3)
    simp only [fv, h2]
    rw [show σ p b = σ' p b from h0]
  | some q :: r, b, h => by
    have h2 := fv_cong (ad := ad) (σ := σ) (σ' := σ') (p := p) (fs := r) (b := b + 1) (fun j hj => by
      have h3 := h (j + 1) (by simpa using hj)
      rw [show b + 1 + j = b + (j + 1) by omega]
      exact h3)
    simp only [fv, h2]
theorem fv_set {ad : Nat → Nat} {σ : Sg} {p k : Nat} {v : Int32} {fs : List (Option Nat)} (hk : fs[k]? = some none) : (fv ad σ p 0 fs).set k (.int v) = fv ad (s2 σ p k v) p 0 fs := by
  apply List.ext_getElem?
  intro j
  have hl : k < fs.length := (List.getElem?_eq_some_iff.mp hk).1
  by_cases hj : j = k
  · subst hj
    rw [List.getElem?_set_self (by rw [fv_len]; exact hl), fv_int hk]
    simp [s2, upd]
  · rw [List.getElem?_set_ne (Ne.symm hj)]
    cases hf : fs[j]? with
    | none =>
      have h1 : fs.length ≤ j := List.getElem?_eq_none_iff.mp hf
      rw [List.getElem?_eq_none_iff.mpr (by rw [fv_len]; exact h1), List.getElem?_eq_none_iff.mpr (by rw [fv_len]; exact h1)]
    | some o =>
      cases o with
      | none =>
        rw [fv_int hf, fv_int hf]
        simp [s2, upd, hj]
      | some q => rw [fv_ref hf, fv_ref hf]
theorem cel_obj {K : CK} {ad : Nat → Nat} {σ : Sg} {p ci : Nat} {fs : List (Option Nat)} (h : lay p = .inl (ci, fs)) : cel K ad σ p = .inr (ci, fv ad σ p 0 fs) := by unfold cel; rw [h]; rfl
theorem cel_int {K : CK} {ad : Nat → Nat} {σ : Sg} {p n : Nat} (h : lay p = .inr (0, n)) : cel K ad σ p = .inl (K.1, n, .inl (σ p)) := by unfold cel; rw [h]; rfl
theorem cel_bool {K : CK} {ad : Nat → Nat} {σ : Sg} {p n : Nat} (h : lay p = .inr (1, n)) : cel K ad σ p = .inl (K.2.1, n, .inl (σ p)) := by unfold cel; rw [h]; rfl
theorem cel_refs {K : CK} {ad : Nat → Nat} {σ : Sg} {p n : Nat} (h : lay p = .inr (2, n)) : cel K ad σ p = .inl (K.2.2.1, n, .inr (.inr (.inr (.inr (fun j => some (ad (15 + 7 * j))))))) := by unfold cel; rw [h]; rfl
theorem cel_long {K : CK} {ad : Nat → Nat} {σ : Sg} {p n : Nat} (h : lay p = .inr (3, n)) : cel K ad σ p = .inl (K.2.2.2, n, .inr (.inl (fun j => (σ p j).toInt64))) := by unfold cel; rw [h]; rfl
theorem cel_cong {K : CK} {ad : Nat → Nat} {σ σ' : Sg} {p : Nat} (h : σ p = σ' p) : cel K ad σ p = cel K ad σ' p := by
  unfold cel celS
  split <;> simp [h]
  exact fv_cong (fun j _ => by rw [h])
theorem wld_set {K : CK} {ad : Nat → Nat} {σ σ' : Sg} {p : Nat} {e : va_E} (he : e = cel K ad σ' p) (hq : ∀ q, q ≠ p → σ q = σ' q) : (wld K ad σ).set p (ad p, e) = wld K ad σ' := by
  apply List.ext_getElem?
  intro j
  by_cases hj : j < 68
  · rw [wld_get hj]
    by_cases hjp : j = p
    · subst hjp
      rw [List.getElem?_set_self (by rw [wld_len]; exact hj), he]
    · rw [List.getElem?_set_ne (Ne.symm hjp), wld_get hj, cel_cong (hq j hjp)]
  · rw [List.getElem?_eq_none_iff.mpr (by rw [List.length_set, wld_len]; omega), List.getElem?_eq_none_iff.mpr (by rw [wld_len]; omega)]
-- addresses
def adInj (ad : Nat → Nat) : Prop := ∀ i j, i < 68 → j < 68 → ad i = ad j → i = j
def adS (ad : Nat → Nat) : Nat → Prop := fun q => ∃ i, i < 68 ∧ q = ad i
theorem wld_D {K : CK} {ad : Nat → Nat} {σ : Sg} {A : Nat → Prop} (hi : adInj ad) (hA : ∀ i, i < 68 → A (ad i)) : va_D A (wld K ad σ) := by
  have key : ∀ (k : Nat) (q : Nat × va_E), (wld K ad σ)[k]? = some q → k < 68 ∧ q.1 = ad k := by
    intro k q hk
    have hl := (List.getElem?_eq_some_iff.mp hk).1
    rw [wld_len] at hl
    rw [wld_get hl] at hk
    cases hk
    exact ⟨hl, rfl⟩
  refine ⟨fun i j x y h1 h2 h3 => ?_, fun k q hk => ?_⟩
  · obtain ⟨a1, b1⟩ := key i x h1
    obtain ⟨a2, b2⟩ := key j y h2
    exact hi i j a1 a2 (by rw [← b1, ← b2]; exact h3)
  · obtain ⟨a1, b1⟩ := key k q hk
    rw [b1]
    exact hA k a1
-- values, locals
def lvv (ad : Nat → Nat) : PV → Value
  | .inl x => .int x
  | .inr q => .ref (ad q)
theorem lvv_cat (ad : Nat → Nat) (v : PV) : (lvv ad v).category = 1 := by cases v <;> rfl
def lvl (ad : Nat → Nat) : Nat → List (Option PV) → List (Nat × Value)
  | _, [] => []
  | i, none :: r => lvl ad (i + 1) r
  | i, some v :: r => (i, lvv ad v) :: lvl ad (i + 1) r
theorem lvl_mem {ad : Nat → Nat} {v : PV} : ∀ {L : List (Option PV)} {b j : Nat}, L[j]? = some (some v) → (b + j, lvv ad v) ∈ lvl ad b L
  | [], _, _, h => by simp at h
  | none :: r, b, 0, h => by simp at h
  | some w :: r, b, 0, h => by simp at h; simp [lvl, h]
  | none :: r, b, j + 1, h => by
    have := lvl_mem (ad := ad) (L := r) (b := b + 1) (j := j) (by simpa using h)
    simp only [lvl]
    rw [show b + (j + 1) = b + 1 + j by omega]
    exact this
  | some w :: r, b, j + 1, h => by
    have := lvl_mem (ad := ad) (L := r) (b := b + 1) (j := j) (by simpa using h)
    simp only [lvl]
    rw [show b + (j + 1) = b + 1 + j by omega]
    exact List.mem_cons_of_mem _ this
theorem lvl_of {ad : Nat → Nat} {q : Nat × Value} : ∀ {L : List (Option PV)} {b : Nat}, q ∈ lvl ad b L → ∃ j v, q = (b + j, lvv ad v) ∧ L[j]? = some (some v)
  | [], _, h => by simp [lvl] at h
  | none :: r, b, h => by
    obtain ⟨j, v, h1, h2⟩ := lvl_of (L := r) (b := b + 1) h
    exact ⟨j + 1, v, by rw [h1, show b + 1 + j = b + (j + 1) by omega], by simpa using h2⟩
  | some w :: r, b, h => by
    rcases List.mem_cons.mp h with h | h
    · exact ⟨0, w, h, rfl⟩
    · obtain ⟨j, v, h1, h2⟩ := lvl_of (L := r) (b := b + 1) h
      exact ⟨j + 1, v, by rw [h1, show b + 1 + j = b + (j + 1) by omega], by simpa using h2⟩
theorem lvl_at {ad : Nat → Nat} {ls : Array Slot} {nL : Nat} {L : List (Option PV)} {i : Nat} {v : PV} (h : lv_has ls nL (lvl ad 0 L)) (hk : L[i]? = some (some v)) : ls[i]? = some (.val (lvv ad v)) := by
  have h1 := lvl_mem (ad := ad) (b := 0) hk
  rw [Nat.zero_add] at h1
  exact h.2.2 _ h1
theorem lvl_store {ad : Nat → Nat} {ls : Array Slot} {nL i : Nat} {L : List (Option PV)} {v : PV} (h : lv_has ls nL ((i, lvv ad v) :: (lvl ad 0 L).filter (fun q => !(q.1 == i) && !(q.1 + 1 == i && q.2.category == 2)))) : lv_has ls nL (lvl ad 0 (L.set i (some v))) := by
  refine ⟨h.1, h.2.1, fun q hq => h.2.2 q ?_⟩
  obtain ⟨j, w, rfl, h2⟩ := lvl_of hq
  rw [Nat.zero_add]
  by_cases hj : j = i
  · subst hj
    have hl : j < (L.set j (some v)).length := (List.getElem?_eq_some_iff.mp h2).1
    rw [List.length_set] at hl
    rw [List.getElem?_set_self hl] at h2
    cases h2
    exact List.mem_cons_self
  · rw [List.getElem?_set_ne (Ne.symm hj)] at h2
    have h3 := lvl_mem (ad := ad) (b := 0) h2
    rw [Nat.zero_add] at h3
    refine List.mem_cons_of_mem _ (List.mem_filter.mpr ⟨h3, ?_⟩)
    simp [hj, lvv_cat]
theorem lvl_none {ad : Nat → Nat} : ∀ (k b : Nat), lvl ad b (List.replicate k none) = []
  | 0, _ => rfl
  | k + 1, b => by rw [List.replicate_succ]; exact lvl_none k (b + 1)
theorem lvl_args {ad : Nat → Nat} {k : Nat} : ∀ (as : List PV) (b : Nat), lv_args b (as.map (lvv ad)) = lvl ad b (as.map some ++ List.replicate k none)
  | [], b => by simp [lv_args, lvl_none]
  | v :: r, b => by
    have h := lvl_args (ad := ad) (k := k) r (b + 1)
    simp only [List.map_cons, List.cons_append, lvl, lv_args]
    rw [if_neg (by rw [lvv_cat]; decide), h]
theorem lg_sl_len {ad : Nat → Nat} : ∀ (as : List PV), (lg_sl (as.map (lvv ad))).length = as.length
  | [] => rfl
  | v :: r => by
    have h := lg_sl_len (ad := ad) r
    unfold lg_sl at h ⊢
    simp only [List.map_cons, List.flatMap_cons, List.length_append, h, List.length_cons]
    rw [if_neg (by rw [lvv_cat]; decide)]
    simp only [List.length_cons, List.length_nil]
    omega
theorem cat_sum {ad : Nat → Nat} : ∀ (r : List PV), ((r.map (lvv ad)).map fun v => v.category).sum = r.length
  | [] => rfl
  | v :: r => by
    have h := cat_sum (ad := ad) r
    simp only [List.map_cons, List.sum_cons, h, lvv_cat, List.length_cons]
    omega
-- the words
def TT : List Cond := lw_tbl.filter goodWord
theorem TT_in {w : Cond} (h : w ∈ lw_tbl) (g : goodWord w = true) : w ∈ TT := List.mem_filter.mpr ⟨h, g⟩
theorem TT_good {big ws : List Cond} (h : ∀ w ∈ ws, w ∈ TT) (hb : ∀ w ∈ TT, w ∈ big) : GoodIn big ws := fun w hw => ⟨hb w (h w hw), good_of_word (List.mem_filter.mp (h w hw)).2⟩
